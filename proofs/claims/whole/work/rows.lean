section
-- ===== PART A: goes FIRST, ahead of the names: the tables' words, and 'selects' of the private methods out of them =====
/-- a private method of a class that the tables say can be made, by its rows of tables_1 -/
def lw_okq (q : MethodName × Nat) : Prop := (q.1.cls ≠ "java/lang/invoke/MethodHandle" ∧ q.1.cls ≠ "java/lang/invoke/VarHandle") ∧ Cond.instantiable q.1.cls q.2 ∈ tables_1 ∧ Cond.privateMethod q.1 ∈ tables_1 ∧ Cond.instanceMethod q.1 ∈ tables_1
theorem lw_p0 : lw_okq (⟨"TrialSlots$Maker", "putChains", "([II)V"⟩, 3) := ⟨⟨by decide +kernel, by decide +kernel⟩, List.mem_of_getElem? (i := 19) (by decide +kernel), List.mem_of_getElem? (i := 65) (by decide +kernel), List.mem_of_getElem? (i := 66) (by decide +kernel)⟩
theorem lw_p1 : lw_okq (⟨"TrialSlots$Maker", "putPath", "([II)V"⟩, 3) := ⟨⟨by decide +kernel, by decide +kernel⟩, List.mem_of_getElem? (i := 19) (by decide +kernel), List.mem_of_getElem? (i := 75) (by decide +kernel), List.mem_of_getElem? (i := 76) (by decide +kernel)⟩
theorem lw_p2 : lw_okq (⟨"TrialSlots", "isPackageWord", "(II)Z"⟩, 9) := ⟨⟨by decide +kernel, by decide +kernel⟩, List.mem_of_getElem? (i := 11) (by decide +kernel), List.mem_of_getElem? (i := 163) (by decide +kernel), List.mem_of_getElem? (i := 164) (by decide +kernel)⟩
theorem lw_p3 : lw_okq (⟨"TrialSlots", "isPackage", "(I)Z"⟩, 9) := ⟨⟨by decide +kernel, by decide +kernel⟩, List.mem_of_getElem? (i := 11) (by decide +kernel), List.mem_of_getElem? (i := 167) (by decide +kernel), List.mem_of_getElem? (i := 168) (by decide +kernel)⟩
theorem lw_p4 : lw_okq (⟨"TrialSlots$Store", "currentRecord", "()I"⟩, 4) := ⟨⟨by decide +kernel, by decide +kernel⟩, List.mem_of_getElem? (i := 79) (by decide +kernel), List.mem_of_getElem? (i := 211) (by decide +kernel), List.mem_of_getElem? (i := 212) (by decide +kernel)⟩
theorem lw_p5 : lw_okq (⟨"TrialSlots$Store", "isGood", "(I)Z"⟩, 4) := ⟨⟨by decide +kernel, by decide +kernel⟩, List.mem_of_getElem? (i := 79) (by decide +kernel), List.mem_of_getElem? (i := 215) (by decide +kernel), List.mem_of_getElem? (i := 216) (by decide +kernel)⟩
theorem lw_p6 : lw_okq (⟨"TrialSlots", "replace", "(II)Z"⟩, 9) := ⟨⟨by decide +kernel, by decide +kernel⟩, List.mem_of_getElem? (i := 11) (by decide +kernel), List.mem_of_getElem? (i := 225) (by decide +kernel), List.mem_of_getElem? (i := 226) (by decide +kernel)⟩
theorem lw_p7 : lw_okq (⟨"TrialSlots$Store", "put", "(II)Z"⟩, 4) := ⟨⟨by decide +kernel, by decide +kernel⟩, List.mem_of_getElem? (i := 79) (by decide +kernel), List.mem_of_getElem? (i := 242) (by decide +kernel), List.mem_of_getElem? (i := 243) (by decide +kernel)⟩
theorem lw_p8 : lw_okq (⟨"TrialSlots$Store", "mayWrite", "()Z"⟩, 4) := ⟨⟨by decide +kernel, by decide +kernel⟩, List.mem_of_getElem? (i := 79) (by decide +kernel), List.mem_of_getElem? (i := 246) (by decide +kernel), List.mem_of_getElem? (i := 247) (by decide +kernel)⟩
theorem lw_p9 : lw_okq (⟨"TrialSlots", "powerLost", "()I"⟩, 9) := ⟨⟨by decide +kernel, by decide +kernel⟩, List.mem_of_getElem? (i := 11) (by decide +kernel), List.mem_of_getElem? (i := 257) (by decide +kernel), List.mem_of_getElem? (i := 258) (by decide +kernel)⟩
theorem lw_p10 : lw_okq (⟨"TrialSlots", "stop", "()V"⟩, 9) := ⟨⟨by decide +kernel, by decide +kernel⟩, List.mem_of_getElem? (i := 11) (by decide +kernel), List.mem_of_getElem? (i := 261) (by decide +kernel), List.mem_of_getElem? (i := 262) (by decide +kernel)⟩
theorem lw_p11 : lw_okq (⟨"TrialSlots", "forgetStages", "()V"⟩, 9) := ⟨⟨by decide +kernel, by decide +kernel⟩, List.mem_of_getElem? (i := 11) (by decide +kernel), List.mem_of_getElem? (i := 265) (by decide +kernel), List.mem_of_getElem? (i := 266) (by decide +kernel)⟩
theorem lw_p12 : lw_okq (⟨"TrialSlots", "attempt", "(I)Z"⟩, 9) := ⟨⟨by decide +kernel, by decide +kernel⟩, List.mem_of_getElem? (i := 11) (by decide +kernel), List.mem_of_getElem? (i := 280) (by decide +kernel), List.mem_of_getElem? (i := 281) (by decide +kernel)⟩
theorem lw_p13 : lw_okq (⟨"TrialSlots", "enter", "(I)V"⟩, 9) := ⟨⟨by decide +kernel, by decide +kernel⟩, List.mem_of_getElem? (i := 11) (by decide +kernel), List.mem_of_getElem? (i := 291) (by decide +kernel), List.mem_of_getElem? (i := 292) (by decide +kernel)⟩
theorem lw_p14 : lw_okq (⟨"TrialSlots", "startConfirmed", "()I"⟩, 9) := ⟨⟨by decide +kernel, by decide +kernel⟩, List.mem_of_getElem? (i := 11) (by decide +kernel), List.mem_of_getElem? (i := 296) (by decide +kernel), List.mem_of_getElem? (i := 297) (by decide +kernel)⟩
theorem lw_p15 : lw_okq (⟨"TrialSlots", "isConfirmed", "(I)Z"⟩, 9) := ⟨⟨by decide +kernel, by decide +kernel⟩, List.mem_of_getElem? (i := 11) (by decide +kernel), List.mem_of_getElem? (i := 300) (by decide +kernel), List.mem_of_getElem? (i := 301) (by decide +kernel)⟩
def lw_privs_1 : List (MethodName × Nat) := [(⟨"TrialSlots$Maker", "putChains", "([II)V"⟩, 3), (⟨"TrialSlots$Maker", "putPath", "([II)V"⟩, 3), (⟨"TrialSlots", "isPackageWord", "(II)Z"⟩, 9), (⟨"TrialSlots", "isPackage", "(I)Z"⟩, 9), (⟨"TrialSlots$Store", "currentRecord", "()I"⟩, 4), (⟨"TrialSlots$Store", "isGood", "(I)Z"⟩, 4), (⟨"TrialSlots", "replace", "(II)Z"⟩, 9), (⟨"TrialSlots$Store", "put", "(II)Z"⟩, 4), (⟨"TrialSlots$Store", "mayWrite", "()Z"⟩, 4), (⟨"TrialSlots", "powerLost", "()I"⟩, 9), (⟨"TrialSlots", "stop", "()V"⟩, 9), (⟨"TrialSlots", "forgetStages", "()V"⟩, 9), (⟨"TrialSlots", "attempt", "(I)Z"⟩, 9), (⟨"TrialSlots", "enter", "(I)V"⟩, 9), (⟨"TrialSlots", "startConfirmed", "()I"⟩, 9), (⟨"TrialSlots", "isConfirmed", "(I)Z"⟩, 9)]
theorem lw_r1 : ∀ q ∈ lw_privs_1, lw_okq q := List.forall_mem_cons.mpr ⟨lw_p0, List.forall_mem_cons.mpr ⟨lw_p1, List.forall_mem_cons.mpr ⟨lw_p2, List.forall_mem_cons.mpr ⟨lw_p3, List.forall_mem_cons.mpr ⟨lw_p4, List.forall_mem_cons.mpr ⟨lw_p5, List.forall_mem_cons.mpr ⟨lw_p6, List.forall_mem_cons.mpr ⟨lw_p7, List.forall_mem_cons.mpr ⟨lw_p8, List.forall_mem_cons.mpr ⟨lw_p9, List.forall_mem_cons.mpr ⟨lw_p10, List.forall_mem_cons.mpr ⟨lw_p11, List.forall_mem_cons.mpr ⟨lw_p12, List.forall_mem_cons.mpr ⟨lw_p13, List.forall_mem_cons.mpr ⟨lw_p14, List.forall_mem_cons.mpr ⟨lw_p15, fun _ h => absurd h List.not_mem_nil⟩⟩⟩⟩⟩⟩⟩⟩⟩⟩⟩⟩⟩⟩⟩⟩
theorem lw_p16 : lw_okq (⟨"TrialSlotsModel", "pack", "(IIII)V"⟩, 15) := ⟨⟨by decide +kernel, by decide +kernel⟩, List.mem_of_getElem? (i := 362) (by decide +kernel), List.mem_of_getElem? (i := 368) (by decide +kernel), List.mem_of_getElem? (i := 369) (by decide +kernel)⟩
theorem lw_p17 : lw_okq (⟨"TrialSlotsModel", "seal", "(II)V"⟩, 15) := ⟨⟨by decide +kernel, by decide +kernel⟩, List.mem_of_getElem? (i := 362) (by decide +kernel), List.mem_of_getElem? (i := 372) (by decide +kernel), List.mem_of_getElem? (i := 373) (by decide +kernel)⟩
theorem lw_p18 : lw_okq (⟨"TrialSlotsModel", "digits", "(I)V"⟩, 15) := ⟨⟨by decide +kernel, by decide +kernel⟩, List.mem_of_getElem? (i := 362) (by decide +kernel), List.mem_of_getElem? (i := 381) (by decide +kernel), List.mem_of_getElem? (i := 382) (by decide +kernel)⟩
theorem lw_p19 : lw_okq (⟨"TrialSlotsModel", "chain", "(III)I"⟩, 15) := ⟨⟨by decide +kernel, by decide +kernel⟩, List.mem_of_getElem? (i := 362) (by decide +kernel), List.mem_of_getElem? (i := 385) (by decide +kernel), List.mem_of_getElem? (i := 386) (by decide +kernel)⟩
theorem lw_p20 : lw_okq (⟨"TrialSlotsModel", "tree", "()V"⟩, 15) := ⟨⟨by decide +kernel, by decide +kernel⟩, List.mem_of_getElem? (i := 362) (by decide +kernel), List.mem_of_getElem? (i := 392) (by decide +kernel), List.mem_of_getElem? (i := 393) (by decide +kernel)⟩
theorem lw_p21 : lw_okq (⟨"TrialSlotsModel", "leaf", "(I)I"⟩, 15) := ⟨⟨by decide +kernel, by decide +kernel⟩, List.mem_of_getElem? (i := 362) (by decide +kernel), List.mem_of_getElem? (i := 396) (by decide +kernel), List.mem_of_getElem? (i := 397) (by decide +kernel)⟩
theorem lw_p22 : lw_okq (⟨"TrialSlotsModel", "noWord", "(II)Z"⟩, 15) := ⟨⟨by decide +kernel, by decide +kernel⟩, List.mem_of_getElem? (i := 362) (by decide +kernel), List.mem_of_getElem? (i := 464) (by decide +kernel), List.mem_of_getElem? (i := 465) (by decide +kernel)⟩
theorem lw_p23 : lw_okq (⟨"TrialSlotsModel", "stranger", "(I)I"⟩, 15) := ⟨⟨by decide +kernel, by decide +kernel⟩, List.mem_of_getElem? (i := 362) (by decide +kernel), List.mem_of_getElem? (i := 476) (by decide +kernel), List.mem_of_getElem? (i := 477) (by decide +kernel)⟩
theorem lw_p24 : lw_okq (⟨"TrialSlotsModel", "signed", "(I)Z"⟩, 15) := ⟨⟨by decide +kernel, by decide +kernel⟩, List.mem_of_getElem? (i := 362) (by decide +kernel), List.mem_of_getElem? (i := 480) (by decide +kernel), List.mem_of_getElem? (i := 481) (by decide +kernel)⟩
theorem lw_p25 : lw_okq (⟨"TrialSlotsModel", "entry", "()I"⟩, 15) := ⟨⟨by decide +kernel, by decide +kernel⟩, List.mem_of_getElem? (i := 362) (by decide +kernel), List.mem_of_getElem? (i := 493) (by decide +kernel), List.mem_of_getElem? (i := 494) (by decide +kernel)⟩
theorem lw_p26 : lw_okq (⟨"TrialSlotsModel", "current", "()I"⟩, 15) := ⟨⟨by decide +kernel, by decide +kernel⟩, List.mem_of_getElem? (i := 362) (by decide +kernel), List.mem_of_getElem? (i := 497) (by decide +kernel), List.mem_of_getElem? (i := 498) (by decide +kernel)⟩
theorem lw_p27 : lw_okq (⟨"TrialSlotsModel", "good", "(I)Z"⟩, 15) := ⟨⟨by decide +kernel, by decide +kernel⟩, List.mem_of_getElem? (i := 362) (by decide +kernel), List.mem_of_getElem? (i := 501) (by decide +kernel), List.mem_of_getElem? (i := 502) (by decide +kernel)⟩
theorem lw_p28 : lw_okq (⟨"TrialSlotsModel", "table", "(III)V"⟩, 15) := ⟨⟨by decide +kernel, by decide +kernel⟩, List.mem_of_getElem? (i := 362) (by decide +kernel), List.mem_of_getElem? (i := 514) (by decide +kernel), List.mem_of_getElem? (i := 515) (by decide +kernel)⟩
theorem lw_p29 : lw_okq (⟨"TrialSlotsModel", "put", "(II)V"⟩, 15) := ⟨⟨by decide +kernel, by decide +kernel⟩, List.mem_of_getElem? (i := 362) (by decide +kernel), List.mem_of_getElem? (i := 519) (by decide +kernel), List.mem_of_getElem? (i := 520) (by decide +kernel)⟩
theorem lw_p30 : lw_okq (⟨"TrialSlotsModel", "may", "()Z"⟩, 15) := ⟨⟨by decide +kernel, by decide +kernel⟩, List.mem_of_getElem? (i := 362) (by decide +kernel), List.mem_of_getElem? (i := 523) (by decide +kernel), List.mem_of_getElem? (i := 524) (by decide +kernel)⟩
theorem lw_p31 : lw_okq (⟨"TrialSlotsModel", "answer", "(I)I"⟩, 15) := ⟨⟨by decide +kernel, by decide +kernel⟩, List.mem_of_getElem? (i := 362) (by decide +kernel), List.mem_of_getElem? (i := 527) (by decide +kernel), List.mem_of_getElem? (i := 528) (by decide +kernel)⟩
def lw_privs_2 : List (MethodName × Nat) := [(⟨"TrialSlotsModel", "pack", "(IIII)V"⟩, 15), (⟨"TrialSlotsModel", "seal", "(II)V"⟩, 15), (⟨"TrialSlotsModel", "digits", "(I)V"⟩, 15), (⟨"TrialSlotsModel", "chain", "(III)I"⟩, 15), (⟨"TrialSlotsModel", "tree", "()V"⟩, 15), (⟨"TrialSlotsModel", "leaf", "(I)I"⟩, 15), (⟨"TrialSlotsModel", "noWord", "(II)Z"⟩, 15), (⟨"TrialSlotsModel", "stranger", "(I)I"⟩, 15), (⟨"TrialSlotsModel", "signed", "(I)Z"⟩, 15), (⟨"TrialSlotsModel", "entry", "()I"⟩, 15), (⟨"TrialSlotsModel", "current", "()I"⟩, 15), (⟨"TrialSlotsModel", "good", "(I)Z"⟩, 15), (⟨"TrialSlotsModel", "table", "(III)V"⟩, 15), (⟨"TrialSlotsModel", "put", "(II)V"⟩, 15), (⟨"TrialSlotsModel", "may", "()Z"⟩, 15), (⟨"TrialSlotsModel", "answer", "(I)I"⟩, 15)]
theorem lw_r2 : ∀ q ∈ lw_privs_2, lw_okq q := List.forall_mem_cons.mpr ⟨lw_p16, List.forall_mem_cons.mpr ⟨lw_p17, List.forall_mem_cons.mpr ⟨lw_p18, List.forall_mem_cons.mpr ⟨lw_p19, List.forall_mem_cons.mpr ⟨lw_p20, List.forall_mem_cons.mpr ⟨lw_p21, List.forall_mem_cons.mpr ⟨lw_p22, List.forall_mem_cons.mpr ⟨lw_p23, List.forall_mem_cons.mpr ⟨lw_p24, List.forall_mem_cons.mpr ⟨lw_p25, List.forall_mem_cons.mpr ⟨lw_p26, List.forall_mem_cons.mpr ⟨lw_p27, List.forall_mem_cons.mpr ⟨lw_p28, List.forall_mem_cons.mpr ⟨lw_p29, List.forall_mem_cons.mpr ⟨lw_p30, List.forall_mem_cons.mpr ⟨lw_p31, fun _ h => absurd h List.not_mem_nil⟩⟩⟩⟩⟩⟩⟩⟩⟩⟩⟩⟩⟩⟩⟩⟩
theorem lw_p32 : lw_okq (⟨"TrialSlotsModel", "attempt", "(I)Z"⟩, 15) := ⟨⟨by decide +kernel, by decide +kernel⟩, List.mem_of_getElem? (i := 362) (by decide +kernel), List.mem_of_getElem? (i := 535) (by decide +kernel), List.mem_of_getElem? (i := 536) (by decide +kernel)⟩
theorem lw_p33 : lw_okq (⟨"TrialSlotsModel", "blow", "(I)V"⟩, 15) := ⟨⟨by decide +kernel, by decide +kernel⟩, List.mem_of_getElem? (i := 362) (by decide +kernel), List.mem_of_getElem? (i := 539) (by decide +kernel), List.mem_of_getElem? (i := 540) (by decide +kernel)⟩
def lw_privs_3 : List (MethodName × Nat) := [(⟨"TrialSlotsModel", "attempt", "(I)Z"⟩, 15), (⟨"TrialSlotsModel", "blow", "(I)V"⟩, 15)]
theorem lw_r3 : ∀ q ∈ lw_privs_3, lw_okq q := List.forall_mem_cons.mpr ⟨lw_p32, List.forall_mem_cons.mpr ⟨lw_p33, fun _ h => absurd h List.not_mem_nil⟩⟩
def lw_privs : List (MethodName × Nat) := lw_privs_1 ++ (lw_privs_2 ++ (lw_privs_3))
def lw_tbl : List Cond := k2_sels lw_privs ++ tables_1
theorem lw_privs_ok : ∀ q ∈ lw_privs, lw_okq q := by
  show ∀ q ∈ lw_privs_1 ++ (lw_privs_2 ++ (lw_privs_3)), lw_okq q
  exact List.forall_mem_append.mpr ⟨lw_r1, List.forall_mem_append.mpr ⟨lw_r2, lw_r3⟩⟩
end
section
/-! Own rows over the kit: truth values as ints, branches over naturals, arrays at a natural place, calls that change nothing, loops. -/
def bI (b : Bool) : Int32 := if b then 1 else 0
def ush (x y : Int32) : Int32 := (x.toUInt32 >>> (y.toUInt32 &&& Int32.toUInt32 31)).toInt32
theorem bI_narrow (b : Bool) : narrow .boolean (.int (bI b)) = .int (bI b) := by cases b <;> rfl
theorem bI_fits (b : Bool) : fits .boolean (.int (bI b)) = true := by cases b <;> rfl
theorem bI_0 (b : Bool) : bI b = 0 ↔ b = false := by cases b <;> decide
theorem bI_inj {a b : Bool} : bI a = bI b ↔ a = b := by cases a <;> cases b <;> decide
theorem nI_inc (k : Nat) : nI k + Int32.ofInt 1 = nI (k + 1) := by
  have h : Int32.ofInt 1 = (1 : Int32) := by decide
  rw [h, nI_1]
/-- a method that changes no cell and answers r -/
def qr (r : Int32) : Array Value → State → Outcome → State → Prop := fun _ st oc t => ∃ v : Int32, oc = .returned (some (.int v)) ∧ v = r ∧ t.heap = st.heap
section BASE
variable {p : Program} {l : Launch} {e : Env} {R : Room} {s : State} {m : MethodId} {args : Array Value} {below : List Frame} {meth : Method} {c : Code} {H : Heap} {locs : List Loc} {cells slots : Nat} {Q : State → Prop}
variable {cc : ByteArray} {pc : Nat} {ls : Array Slot} {rest : List Value}
theorem tp {x y : Int32} (h : x = y) (k : W p l e R s m args below meth c H locs cells slots Q (F0 m pc ls (.int y :: rest))) : W p l e R s m args below meth c H locs cells slots Q (F0 m pc ls (.int x :: rest)) := by
  subst h
  exact k
theorem nb_ge (hexec : p.tables.exec = Jvm.exec) (hb : c.code = cc) {a b : Nat} {off : Int} {tgt : Nat} (hdg : decode cc pc = .ok (.if_icmp .ge off, 3)) (ht : (pc : Int) + off = (tgt : Int)) (h1 : a < 2 ^ 31) (h2 : b < 2 ^ 31)
    (kt : b ≤ a → W p l e R s m args below meth c H locs cells slots Q (F0 m tgt ls rest)) (kf : ¬ b ≤ a → W p l e R s m args below meth c H locs cells slots Q (F0 m (pc + 3) ls rest)) : W p l e R s m args below meth c H locs cells slots Q (F0 m pc ls (.int (nI b) :: .int (nI a) :: rest)) :=
  lv_icmp_ge hexec hb hdg ht (fun h => kt ((nI_leI h2 h1).mp h)) (fun h => kf (fun z => h ((nI_leI h2 h1).mpr z)))
theorem nb_lt (hexec : p.tables.exec = Jvm.exec) (hb : c.code = cc) {a b : Nat} {off : Int} {tgt : Nat} (hdg : decode cc pc = .ok (.if_icmp .lt off, 3)) (ht : (pc : Int) + off = (tgt : Int)) (h1 : a < 2 ^ 31) (h2 : b < 2 ^ 31)
    (kt : a < b → W p l e R s m args below meth c H locs cells slots Q (F0 m tgt ls rest)) (kf : ¬ a < b → W p l e R s m args below meth c H locs cells slots Q (F0 m (pc + 3) ls rest)) : W p l e R s m args below meth c H locs cells slots Q (F0 m pc ls (.int (nI b) :: .int (nI a) :: rest)) :=
  lv_icmp_lt hexec hb hdg ht (fun h => kt ((nI_ltI h1 h2).mp h)) (fun h => kf (fun z => h ((nI_ltI h1 h2).mpr z)))
theorem nb_gt (hexec : p.tables.exec = Jvm.exec) (hb : c.code = cc) {a b : Nat} {off : Int} {tgt : Nat} (hdg : decode cc pc = .ok (.if_icmp .gt off, 3)) (ht : (pc : Int) + off = (tgt : Int)) (h1 : a < 2 ^ 31) (h2 : b < 2 ^ 31)
    (kt : b < a → W p l e R s m args below meth c H locs cells slots Q (F0 m tgt ls rest)) (kf : ¬ b < a → W p l e R s m args below meth c H locs cells slots Q (F0 m (pc + 3) ls rest)) : W p l e R s m args below meth c H locs cells slots Q (F0 m pc ls (.int (nI b) :: .int (nI a) :: rest)) :=
  lv_icmp_gt hexec hb hdg ht (fun h => kt ((nI_ltI h2 h1).mp h)) (fun h => kf (fun z => h ((nI_ltI h2 h1).mpr z)))
theorem nb_le (hexec : p.tables.exec = Jvm.exec) (hb : c.code = cc) {a b : Nat} {off : Int} {tgt : Nat} (hdg : decode cc pc = .ok (.if_icmp .le off, 3)) (ht : (pc : Int) + off = (tgt : Int)) (h1 : a < 2 ^ 31) (h2 : b < 2 ^ 31)
    (kt : a ≤ b → W p l e R s m args below meth c H locs cells slots Q (F0 m tgt ls rest)) (kf : ¬ a ≤ b → W p l e R s m args below meth c H locs cells slots Q (F0 m (pc + 3) ls rest)) : W p l e R s m args below meth c H locs cells slots Q (F0 m pc ls (.int (nI b) :: .int (nI a) :: rest)) :=
  lv_icmp_le hexec hb hdg ht (fun h => kt ((nI_leI h1 h2).mp h)) (fun h => kf (fun z => h ((nI_leI h1 h2).mpr z)))
theorem nb_eq (hexec : p.tables.exec = Jvm.exec) (hb : c.code = cc) {a b : Nat} {off : Int} {tgt : Nat} (hdg : decode cc pc = .ok (.if_icmp .eq off, 3)) (ht : (pc : Int) + off = (tgt : Int)) (h1 : a < 2 ^ 31) (h2 : b < 2 ^ 31)
    (kt : a = b → W p l e R s m args below meth c H locs cells slots Q (F0 m tgt ls rest)) (kf : ¬ a = b → W p l e R s m args below meth c H locs cells slots Q (F0 m (pc + 3) ls rest)) : W p l e R s m args below meth c H locs cells slots Q (F0 m pc ls (.int (nI b) :: .int (nI a) :: rest)) :=
  lv_icmp_eq hexec hb hdg ht (fun h => kt ((nI_eq h1 h2).mp h)) (fun h => kf (fun z => h ((nI_eq h1 h2).mpr z)))
theorem nb_ne (hexec : p.tables.exec = Jvm.exec) (hb : c.code = cc) {a b : Nat} {off : Int} {tgt : Nat} (hdg : decode cc pc = .ok (.if_icmp .ne off, 3)) (ht : (pc : Int) + off = (tgt : Int)) (h1 : a < 2 ^ 31) (h2 : b < 2 ^ 31)
    (kt : ¬ a = b → W p l e R s m args below meth c H locs cells slots Q (F0 m tgt ls rest)) (kf : a = b → W p l e R s m args below meth c H locs cells slots Q (F0 m (pc + 3) ls rest)) : W p l e R s m args below meth c H locs cells slots Q (F0 m pc ls (.int (nI b) :: .int (nI a) :: rest)) :=
  lv_icmp_ne hexec hb hdg ht (fun h => kt (fun z => h ((nI_eq h1 h2).mpr z))) (fun h => kf ((nI_eq h1 h2).mp h))
theorem nz_eq (hexec : p.tables.exec = Jvm.exec) (hb : c.code = cc) {a : Nat} {off : Int} {tgt : Nat} (hdg : decode cc pc = .ok (.ifCond .eq off, 3)) (ht : (pc : Int) + off = (tgt : Int)) (h1 : a < 2 ^ 31)
    (kt : a = 0 → W p l e R s m args below meth c H locs cells slots Q (F0 m tgt ls rest)) (kf : ¬ a = 0 → W p l e R s m args below meth c H locs cells slots Q (F0 m (pc + 3) ls rest)) : W p l e R s m args below meth c H locs cells slots Q (F0 m pc ls (.int (nI a) :: rest)) :=
  lv_if_eq hexec hb hdg ht (fun h => kt ((nI_eq h1 (by decide)).mp h)) (fun h => kf (fun z => h ((nI_eq h1 (b := 0) (by decide)).mpr z)))
theorem nz_ne (hexec : p.tables.exec = Jvm.exec) (hb : c.code = cc) {a : Nat} {off : Int} {tgt : Nat} (hdg : decode cc pc = .ok (.ifCond .ne off, 3)) (ht : (pc : Int) + off = (tgt : Int)) (h1 : a < 2 ^ 31)
    (kt : ¬ a = 0 → W p l e R s m args below meth c H locs cells slots Q (F0 m tgt ls rest)) (kf : a = 0 → W p l e R s m args below meth c H locs cells slots Q (F0 m (pc + 3) ls rest)) : W p l e R s m args below meth c H locs cells slots Q (F0 m pc ls (.int (nI a) :: rest)) :=
  lv_if_ne hexec hb hdg ht (fun h => kt (fun z => h ((nI_eq h1 (b := 0) (by decide)).mpr z))) (fun h => kf ((nI_eq h1 (by decide)).mp h))
/-- a natural is never below 0: iflt goes on, ifge is taken -/
theorem nz_lt (hexec : p.tables.exec = Jvm.exec) (hb : c.code = cc) {a : Nat} {off : Int} {tgt : Nat} (hdg : decode cc pc = .ok (.ifCond .lt off, 3)) (ht : (pc : Int) + off = (tgt : Int)) (h1 : a < 2 ^ 31)
    (kf : W p l e R s m args below meth c H locs cells slots Q (F0 m (pc + 3) ls rest)) : W p l e R s m args below meth c H locs cells slots Q (F0 m pc ls (.int (nI a) :: rest)) :=
  lv_if_lt hexec hb hdg ht (fun h => absurd h (nI_pos h1)) (fun _ => kf)
theorem nz_ge (hexec : p.tables.exec = Jvm.exec) (hb : c.code = cc) {a : Nat} {off : Int} {tgt : Nat} (hdg : decode cc pc = .ok (.ifCond .ge off, 3)) (ht : (pc : Int) + off = (tgt : Int)) (h1 : a < 2 ^ 31)
    (kt : W p l e R s m args below meth c H locs cells slots Q (F0 m tgt ls rest)) : W p l e R s m args below meth c H locs cells slots Q (F0 m pc ls (.int (nI a) :: rest)) :=
  lv_if_ge hexec hb hdg ht (fun _ => kt) (fun h => absurd (nI_pos' h1) h)
theorem bz_eq (hexec : p.tables.exec = Jvm.exec) (hb : c.code = cc) {a : Bool} {off : Int} {tgt : Nat} (hdg : decode cc pc = .ok (.ifCond .eq off, 3)) (ht : (pc : Int) + off = (tgt : Int))
    (kt : a = false → W p l e R s m args below meth c H locs cells slots Q (F0 m tgt ls rest)) (kf : a = true → W p l e R s m args below meth c H locs cells slots Q (F0 m (pc + 3) ls rest)) : W p l e R s m args below meth c H locs cells slots Q (F0 m pc ls (.int (bI a) :: rest)) :=
  lv_if_eq hexec hb hdg ht (fun h => kt ((bI_0 a).mp h)) (fun h => kf (by cases a; exact absurd rfl h; rfl))
theorem bz_ne (hexec : p.tables.exec = Jvm.exec) (hb : c.code = cc) {a : Bool} {off : Int} {tgt : Nat} (hdg : decode cc pc = .ok (.ifCond .ne off, 3)) (ht : (pc : Int) + off = (tgt : Int))
    (kt : a = true → W p l e R s m args below meth c H locs cells slots Q (F0 m tgt ls rest)) (kf : a = false → W p l e R s m args below meth c H locs cells slots Q (F0 m (pc + 3) ls rest)) : W p l e R s m args below meth c H locs cells slots Q (F0 m pc ls (.int (bI a) :: rest)) :=
  lv_if_ne hexec hb hdg ht (fun h => kt (by cases a; exact absurd rfl h; rfl)) (fun h => kf ((bI_0 a).mp h))
theorem ar_ld {D : va_G} {cl : List vw_C} {tys : List (ClassId × FieldType)} {ws : va_W} {a : Nat} (hexec : p.tables.exec = Jvm.exec) (hb : c.code = cc) (hK : va_K D cl tys s) (hP : va_P D cl ws H) (q0 t0 : Nat) {cA : ClassId} {n : Nat} {f : Nat → Int32} (ha : ws[q0]? = some (a, .inl (cA, n, .inl f))) (ht : tys[t0]? = some (cA, .int)) {k : Nat} (hk : k < n) (hn : n < 2 ^ 31) (hdg : decode cc pc = .ok (.iaload, 1))
    (kk : W p l e R s m args below meth c H locs cells slots Q (F0 m (pc + 1) ls (.int (f k) :: rest))) : W p l e R s m args below meth c H locs cells slots Q (F0 m pc ls (.int (nI k) :: .ref a :: rest)) :=
  va_iald hexec hb hK hP q0 t0 ha ht (vp_in_nI hk hn) hdg (by rw [nI_clamp (Nat.lt_trans hk hn)]; exact kk)
theorem ar_st {D : va_G} {cl : List vw_C} {tys : List (ClassId × FieldType)} {ws : va_W} {A : Nat → Prop} {H0 : Heap} {a : Nat} (hexec : p.tables.exec = Jvm.exec) (hb : c.code = cc) (hK : va_K D cl tys s) (hP : va_P D cl ws H) (hD : va_D A ws) (hS : va_S A H0 H locs) (q0 t0 : Nat) {cA : ClassId} {n : Nat} {f : Nat → Int32} (ha : ws[q0]? = some (a, .inl (cA, n, .inl f))) (ht : tys[t0]? = some (cA, .int)) {k : Nat} {x : Int32} (hk : k < n) (hn : n < 2 ^ 31) (hdg : decode cc pc = .ok (.iastore, 1))
    (kk : ∀ (H1 : Heap) (locs1 : List Loc), va_P D cl (ws.set q0 (a, .inl (cA, n, .inl (upd f k x)))) H1 → va_D A (ws.set q0 (a, .inl (cA, n, .inl (upd f k x)))) → va_S A H0 H1 locs1 → W p l e R s m args below meth c H1 locs1 cells slots Q (F0 m (pc + 1) ls rest)) : W p l e R s m args below meth c H locs cells slots Q (F0 m pc ls (.int x :: .int (nI k) :: .ref a :: rest)) :=
  va_iast hexec hb hK hP hD hS q0 t0 ha ht (vp_in_nI hk hn) hdg (by rw [nI_clamp (Nat.lt_trans hk hn)]; exact kk)
theorem pr_call {r : Int32} {a : Array Value} {st0 : List Value} (hr : va_Run p l e R s m args below meth c H locs cells slots 0 0 (F0 m pc ls st0) rest (qr r a) (fun _ => False))
    (kk : W p l e R s m args below meth c H locs cells slots Q (F0 m (pc + 3) ls (.int r :: rest))) : W p l e R s m args below meth c H locs cells slots Q (F0 m pc ls st0) := by
  intro T hT X
  obtain ⟨v, st₀, t, T', L, h0, X', hL, e1, e2, ⟨v2, hv, hvr, hh⟩, st⟩ := hr T hT X
  cases hv
  subst hvr
  have hL0 : L = [] := by
    cases L with
    | nil => rfl
    | cons q L => exact absurd (hL q List.mem_cons_self) (fun h => h)
  subst hL0
  rw [List.append_nil] at X'
  obtain ⟨t2, a1, b1⟩ := kk T' (by rw [e1, hh, h0]) X'
  exact ⟨t2, st t2 a1, b1⟩
/-- a loop whose heap moves -/
theorem wloop {ι : Type} (μ : ι → Nat) (I : ι → Array Slot → Heap → List Loc → Prop)
    (step : ∀ (i : ι) (ls : Array Slot) (H : Heap) (locs : List Loc), I i ls H locs → (∀ (j : ι) (ls' : Array Slot) (H' : Heap) (locs' : List Loc), μ j < μ i → I j ls' H' locs' → W p l e R s m args below meth c H' locs' cells slots Q (F0 m pc ls' rest)) → W p l e R s m args below meth c H locs cells slots Q (F0 m pc ls rest))
    (i : ι) (h : I i ls H locs) : W p l e R s m args below meth c H locs cells slots Q (F0 m pc ls rest) := by
  have key : ∀ (n : Nat) (i : ι) (ls : Array Slot) (H : Heap) (locs : List Loc), μ i < n → I i ls H locs → W p l e R s m args below meth c H locs cells slots Q (F0 m pc ls rest) := by
    intro n
    induction n with
    | zero => intro i ls H locs h _; exact absurd h (Nat.not_lt_zero _)
    | succ n ih => intro i ls H locs h hi; exact step i ls H locs hi (fun j ls' H' locs' hj hI => ih j ls' H' locs' (by omega) hI)
  exact key (μ i + 1) i ls H locs (Nat.lt_succ_self _) h
/-- a loop that changes no cell -/
theorem wloopP {ι : Type} (μ : ι → Nat) (I : ι → Array Slot → Prop)
    (step : ∀ (i : ι) (ls : Array Slot), I i ls → (∀ (j : ι) (ls' : Array Slot), μ j < μ i → I j ls' → W p l e R s m args below meth c H locs cells slots Q (F0 m pc ls' rest)) → W p l e R s m args below meth c H locs cells slots Q (F0 m pc ls rest))
    (i : ι) (h : I i ls) : W p l e R s m args below meth c H locs cells slots Q (F0 m pc ls rest) := by
  have key : ∀ (n : Nat) (i : ι) (ls : Array Slot), μ i < n → I i ls → W p l e R s m args below meth c H locs cells slots Q (F0 m pc ls rest) := by
    intro n
    induction n with
    | zero => intro i ls h _; exact absurd h (Nat.not_lt_zero _)
    | succ n ih => intro i ls h hi; exact step i ls hi (fun j ls' hj hI => ih j ls' (by omega) hI)
  exact key (μ i + 1) i ls (Nat.lt_succ_self _) h
end BASE
end
section
/-! names: classes, fields, methods and their code -/
def gt : List Cond := lw_tbl.filter goodWord
def R_TS : String := "TrialSlots"
def F_TS : u_T := fun k => match k with
  | 0 => ("TrialSlots", "maker", "LTrialSlots$Maker;", true)
  | 1 => ("TrialSlots", "store", "LTrialSlots$Store;", true)
  | 2 => ("TrialSlots", "packages", "[I", true)
  | 3 => ("TrialSlots", "packageCount", "I", false)
  | 4 => ("TrialSlots", "runningNow", "I", false)
  | 5 => ("TrialSlots", "trialNow", "Z", false)
  | 6 => ("TrialSlots", "entered", "[I", true)
  | 7 => ("TrialSlots", "enteredCount", "I", false)
  | _ => ("TrialSlots", "measured", "I", false)
def t_TS : Nat → FieldType := fun k => match k with
  | 0 => .object "TrialSlots$Maker"
  | 1 => .object "TrialSlots$Store"
  | 2 => .array .int
  | 3 => .int
  | 4 => .int
  | 5 => .boolean
  | 6 => .array .int
  | 7 => .int
  | _ => .int
theorem n_TS : ∀ a, a < 9 → ∀ b, b < 9 → a ≠ b → (F_TS a).2.1 ≠ (F_TS b).2.1 := by decide +kernel
theorem t_TS_ok : ∀ k, k < 9 → parseFieldDescriptor (F_TS k).2.2.1 = some (t_TS k) := by decide +kernel
theorem in_TS : ∀ w ∈ u_ws R_TS F_TS 9, w ∈ gt := by decide +kernel
def R_Mk : String := "TrialSlots$Maker"
def F_Mk : u_T := fun k => match k with
  | 0 => ("TrialSlots$Maker", "secret", "I", true)
  | 1 => ("TrialSlots$Maker", "nodes", "[I", true)
  | _ => ("TrialSlots$Maker", "nextKey", "I", false)
def t_Mk : Nat → FieldType := fun k => match k with
  | 0 => .int
  | 1 => .array .int
  | _ => .int
theorem n_Mk : ∀ a, a < 3 → ∀ b, b < 3 → a ≠ b → (F_Mk a).2.1 ≠ (F_Mk b).2.1 := by decide +kernel
theorem t_Mk_ok : ∀ k, k < 3 → parseFieldDescriptor (F_Mk k).2.2.1 = some (t_Mk k) := by decide +kernel
theorem in_Mk : ∀ w ∈ u_ws R_Mk F_Mk 3, w ∈ gt := by decide +kernel
def R_PW : String := "TrialSlots$PackageWords"
def R_Sg : String := "TrialSlots$Signature"
def R_Tb : String := "TrialSlots$Table"
def R_St : String := "TrialSlots$Store"
def F_St : u_T := fun k => match k with
  | 0 => ("TrialSlots$Store", "words", "[I", true)
  | 1 => ("TrialSlots$Store", "blown", "I", false)
  | 2 => ("TrialSlots$Store", "writesDone", "I", false)
  | _ => ("TrialSlots$Store", "writesLeft", "I", false)
def t_St : Nat → FieldType := fun k => match k with
  | 0 => .array .int
  | 1 => .int
  | 2 => .int
  | _ => .int
theorem n_St : ∀ a, a < 4 → ∀ b, b < 4 → a ≠ b → (F_St a).2.1 ≠ (F_St b).2.1 := by decide +kernel
theorem t_St_ok : ∀ k, k < 4 → parseFieldDescriptor (F_St k).2.2.1 = some (t_St k) := by decide +kernel
theorem in_St : ∀ w ∈ u_ws R_St F_St 4, w ∈ gt := by decide +kernel
def R_Mo : String := "TrialSlotsModel"
def F_Mo : u_T := fun k => match k with
  | 0 => ("TrialSlotsModel", "secret", "I", false)
  | 1 => ("TrialSlotsModel", "words", "[I", false)
  | 2 => ("TrialSlotsModel", "packages", "I", false)
  | 3 => ("TrialSlotsModel", "fuses", "I", false)
  | 4 => ("TrialSlotsModel", "left", "I", false)
  | 5 => ("TrialSlotsModel", "dead", "Z", false)
  | 6 => ("TrialSlotsModel", "done", "I", false)
  | 7 => ("TrialSlotsModel", "run", "I", false)
  | 8 => ("TrialSlotsModel", "trial", "Z", false)
  | 9 => ("TrialSlotsModel", "logged", "I", false)
  | 10 => ("TrialSlotsModel", "entered", "[I", false)
  | 11 => ("TrialSlotsModel", "measure", "I", false)
  | 12 => ("TrialSlotsModel", "digit", "[I", false)
  | 13 => ("TrialSlotsModel", "end", "[I", false)
  | _ => ("TrialSlotsModel", "node", "[I", false)
def t_Mo : Nat → FieldType := fun k => match k with
  | 0 => .int
  | 1 => .array .int
  | 2 => .int
  | 3 => .int
  | 4 => .int
  | 5 => .boolean
  | 6 => .int
  | 7 => .int
  | 8 => .boolean
  | 9 => .int
  | 10 => .array .int
  | 11 => .int
  | 12 => .array .int
  | 13 => .array .int
  | _ => .array .int
theorem n_Mo : ∀ a, a < 15 → ∀ b, b < 15 → a ≠ b → (F_Mo a).2.1 ≠ (F_Mo b).2.1 := by decide +kernel
theorem t_Mo_ok : ∀ k, k < 15 → parseFieldDescriptor (F_Mo k).2.2.1 = some (t_Mo k) := by decide +kernel
theorem in_Mo : ∀ w ∈ u_ws R_Mo F_Mo 15, w ∈ gt := by decide +kernel
def R_Lw : String := "TrialSlotsLaw"
abbrev classes : List vw_C := [(R_TS, F_TS, 9), (R_Mk, F_Mk, 3), (R_St, F_St, 4), (R_Mo, F_Mo, 15)]
abbrev b_TS_init : ByteArray := prog_1_method_1_code
def y_TS_init : MethodName := ⟨R_TS, "<init>", "(II)V"⟩
def w_TS_init : List Cond := .code y_TS_init b_TS_init 4 none :: gt
abbrev b_TS_key : ByteArray := prog_1_method_2_code
def y_TS_key : MethodName := ⟨R_TS, "key", "()I"⟩
def w_TS_key : List Cond := .code y_TS_key b_TS_key 1 (some .int) :: gt
abbrev b_TS_sign : ByteArray := prog_1_method_3_code
def y_TS_sign : MethodName := ⟨R_TS, "sign", "(IIII)I"⟩
def w_TS_sign : List Cond := .code y_TS_sign b_TS_sign 6 (some .int) :: gt
abbrev b_TS_alter : ByteArray := prog_1_method_4_code
def y_TS_alter : MethodName := ⟨R_TS, "alter", "(III)Z"⟩
def w_TS_alter : List Cond := .code y_TS_alter b_TS_alter 4 (some .boolean) :: gt
abbrev b_TS_word : ByteArray := prog_1_method_5_code
def y_TS_word : MethodName := ⟨R_TS, "word", "(II)I"⟩
def w_TS_word : List Cond := .code y_TS_word b_TS_word 3 (some .int) :: gt
abbrev b_TS_fault : ByteArray := prog_1_method_6_code
def y_TS_fault : MethodName := ⟨R_TS, "fault", "(I)I"⟩
def w_TS_fault : List Cond := .code y_TS_fault b_TS_fault 2 (some .int) :: gt
abbrev b_TS_cut : ByteArray := prog_1_method_7_code
def y_TS_cut : MethodName := ⟨R_TS, "cut", "(I)Z"⟩
def w_TS_cut : List Cond := .code y_TS_cut b_TS_cut 2 (some .boolean) :: gt
abbrev b_TS_update : ByteArray := prog_1_method_8_code
def y_TS_update : MethodName := ⟨R_TS, "update", "(I)I"⟩
def w_TS_update : List Cond := .code y_TS_update b_TS_update 3 (some .int) :: gt
abbrev b_TS_boot : ByteArray := prog_1_method_9_code
def y_TS_boot : MethodName := ⟨R_TS, "boot", "()I"⟩
def w_TS_boot : List Cond := .code y_TS_boot b_TS_boot 3 (some .int) :: gt
abbrev b_TS_confirm : ByteArray := prog_1_method_10_code
def y_TS_confirm : MethodName := ⟨R_TS, "confirm", "()I"⟩
def w_TS_confirm : List Cond := .code y_TS_confirm b_TS_confirm 3 (some .int) :: gt
abbrev b_TS_running : ByteArray := prog_1_method_11_code
def y_TS_running : MethodName := ⟨R_TS, "running", "()I"⟩
def w_TS_running : List Cond := .code y_TS_running b_TS_running 1 (some .int) :: gt
abbrev b_TS_onTrial : ByteArray := prog_1_method_12_code
def y_TS_onTrial : MethodName := ⟨R_TS, "onTrial", "()Z"⟩
def w_TS_onTrial : List Cond := .code y_TS_onTrial b_TS_onTrial 1 (some .boolean) :: gt
abbrev b_TS_counter : ByteArray := prog_1_method_13_code
def y_TS_counter : MethodName := ⟨R_TS, "counter", "()I"⟩
def w_TS_counter : List Cond := .code y_TS_counter b_TS_counter 1 (some .int) :: gt
abbrev b_TS_state : ByteArray := prog_1_method_14_code
def y_TS_state : MethodName := ⟨R_TS, "state", "(I)I"⟩
def w_TS_state : List Cond := .code y_TS_state b_TS_state 2 (some .int) :: gt
abbrev b_TS_home : ByteArray := prog_1_method_15_code
def y_TS_home : MethodName := ⟨R_TS, "home", "()I"⟩
def w_TS_home : List Cond := .code y_TS_home b_TS_home 1 (some .int) :: gt
abbrev b_TS_peek : ByteArray := prog_1_method_16_code
def y_TS_peek : MethodName := ⟨R_TS, "peek", "(I)I"⟩
def w_TS_peek : List Cond := .code y_TS_peek b_TS_peek 2 (some .int) :: gt
abbrev b_TS_poke : ByteArray := prog_1_method_17_code
def y_TS_poke : MethodName := ⟨R_TS, "poke", "(II)Z"⟩
def w_TS_poke : List Cond := .code y_TS_poke b_TS_poke 3 (some .boolean) :: gt
abbrev b_TS_register : ByteArray := prog_1_method_18_code
def y_TS_register : MethodName := ⟨R_TS, "register", "()I"⟩
def w_TS_register : List Cond := .code y_TS_register b_TS_register 1 (some .int) :: gt
abbrev b_TS_log : ByteArray := prog_1_method_19_code
def y_TS_log : MethodName := ⟨R_TS, "log", "(I)I"⟩
def w_TS_log : List Cond := .code y_TS_log b_TS_log 2 (some .int) :: gt
abbrev b_TS_writes : ByteArray := prog_1_method_20_code
def y_TS_writes : MethodName := ⟨R_TS, "writes", "()I"⟩
def w_TS_writes : List Cond := .code y_TS_writes b_TS_writes 1 (some .int) :: gt
abbrev b_TS_isPackage : ByteArray := prog_1_method_21_code
def y_TS_isPackage : MethodName := ⟨R_TS, "isPackage", "(I)Z"⟩
def w_TS_isPackage : List Cond := .code y_TS_isPackage b_TS_isPackage 2 (some .boolean) :: gt
abbrev b_TS_isPackageWord : ByteArray := prog_1_method_22_code
def y_TS_isPackageWord : MethodName := ⟨R_TS, "isPackageWord", "(II)Z"⟩
def w_TS_isPackageWord : List Cond := .code y_TS_isPackageWord b_TS_isPackageWord 3 (some .boolean) :: gt
abbrev b_TS_packagePlace : ByteArray := prog_1_method_23_code
def y_TS_packagePlace : MethodName := ⟨R_TS, "packagePlace", "(I)I"⟩
def w_TS_packagePlace : List Cond := .code y_TS_packagePlace b_TS_packagePlace 1 (some .int) :: gt
abbrev b_TS_stop : ByteArray := prog_1_method_24_code
def y_TS_stop : MethodName := ⟨R_TS, "stop", "()V"⟩
def w_TS_stop : List Cond := .code y_TS_stop b_TS_stop 1 none :: gt
abbrev b_TS_powerLost : ByteArray := prog_1_method_25_code
def y_TS_powerLost : MethodName := ⟨R_TS, "powerLost", "()I"⟩
def w_TS_powerLost : List Cond := .code y_TS_powerLost b_TS_powerLost 1 (some .int) :: gt
abbrev b_TS_forgetStages : ByteArray := prog_1_method_26_code
def y_TS_forgetStages : MethodName := ⟨R_TS, "forgetStages", "()V"⟩
def w_TS_forgetStages : List Cond := .code y_TS_forgetStages b_TS_forgetStages 1 none :: gt
abbrev b_TS_replace : ByteArray := prog_1_method_27_code
def y_TS_replace : MethodName := ⟨R_TS, "replace", "(II)Z"⟩
def w_TS_replace : List Cond := .code y_TS_replace b_TS_replace 4 (some .boolean) :: gt
abbrev b_TS_startConfirmed : ByteArray := prog_1_method_28_code
def y_TS_startConfirmed : MethodName := ⟨R_TS, "startConfirmed", "()I"⟩
def w_TS_startConfirmed : List Cond := .code y_TS_startConfirmed b_TS_startConfirmed 3 (some .int) :: gt
abbrev b_TS_isConfirmed : ByteArray := prog_1_method_29_code
def y_TS_isConfirmed : MethodName := ⟨R_TS, "isConfirmed", "(I)Z"⟩
def w_TS_isConfirmed : List Cond := .code y_TS_isConfirmed b_TS_isConfirmed 2 (some .boolean) :: gt
abbrev b_TS_attempt : ByteArray := prog_1_method_30_code
def y_TS_attempt : MethodName := ⟨R_TS, "attempt", "(I)Z"⟩
def w_TS_attempt : List Cond := .code y_TS_attempt b_TS_attempt 5 (some .boolean) :: gt
abbrev b_TS_enter : ByteArray := prog_1_method_31_code
def y_TS_enter : MethodName := ⟨R_TS, "enter", "(I)V"⟩
def w_TS_enter : List Cond := .code y_TS_enter b_TS_enter 2 none :: gt
abbrev b_TS_hash : ByteArray := prog_1_method_32_code
def y_TS_hash : MethodName := ⟨R_TS, "hash", "(II)I"⟩
def w_TS_hash : List Cond := .code y_TS_hash b_TS_hash 3 (some .int) :: gt
abbrev b_Mk_init : ByteArray := prog_2_method_1_code
def y_Mk_init : MethodName := ⟨R_Mk, "<init>", "(I)V"⟩
def w_Mk_init : List Cond := .code y_Mk_init b_Mk_init 3 none :: gt
abbrev b_Mk_root : ByteArray := prog_2_method_2_code
def y_Mk_root : MethodName := ⟨R_Mk, "root", "()I"⟩
def w_Mk_root : List Cond := .code y_Mk_root b_Mk_root 1 (some .int) :: gt
abbrev b_Mk_hasKeyLeft : ByteArray := prog_2_method_3_code
def y_Mk_hasKeyLeft : MethodName := ⟨R_Mk, "hasKeyLeft", "()Z"⟩
def w_Mk_hasKeyLeft : List Cond := .code y_Mk_hasKeyLeft b_Mk_hasKeyLeft 1 (some .boolean) :: gt
abbrev b_Mk_pack : ByteArray := prog_2_method_4_code
def y_Mk_pack : MethodName := ⟨R_Mk, "pack", "([IIIIII)V"⟩
def w_Mk_pack : List Cond := .code y_Mk_pack b_Mk_pack 7 none :: gt
abbrev b_Mk_putChains : ByteArray := prog_2_method_5_code
def y_Mk_putChains : MethodName := ⟨R_Mk, "putChains", "([II)V"⟩
def w_Mk_putChains : List Cond := .code y_Mk_putChains b_Mk_putChains 6 none :: gt
abbrev b_Mk_putPath : ByteArray := prog_2_method_6_code
def y_Mk_putPath : MethodName := ⟨R_Mk, "putPath", "([II)V"⟩
def w_Mk_putPath : List Cond := .code y_Mk_putPath b_Mk_putPath 5 none :: gt
abbrev b_Mk_leaf : ByteArray := prog_2_method_7_code
def y_Mk_leaf : MethodName := ⟨R_Mk, "leaf", "(II)I"⟩
def w_Mk_leaf : List Cond := .code y_Mk_leaf b_Mk_leaf 4 (some .int) :: gt
abbrev b_Mk_chainStart : ByteArray := prog_2_method_8_code
def y_Mk_chainStart : MethodName := ⟨R_Mk, "chainStart", "(III)I"⟩
def w_Mk_chainStart : List Cond := .code y_Mk_chainStart b_Mk_chainStart 3 (some .int) :: gt
abbrev b_PW_isVersion : ByteArray := prog_3_method_2_code
def y_PW_isVersion : MethodName := ⟨R_PW, "isVersion", "(I)Z"⟩
def w_PW_isVersion : List Cond := .code y_PW_isVersion b_PW_isVersion 1 (some .boolean) :: gt
abbrev b_PW_putStage : ByteArray := prog_3_method_3_code
def y_PW_putStage : MethodName := ⟨R_PW, "putStage", "([IIII)V"⟩
def w_PW_putStage : List Cond := .code y_PW_putStage b_PW_putStage 4 none :: gt
abbrev b_PW_isStageWhole : ByteArray := prog_3_method_4_code
def y_PW_isStageWhole : MethodName := ⟨R_PW, "isStageWhole", "([III)Z"⟩
def w_PW_isStageWhole : List Cond := .code y_PW_isStageWhole b_PW_isStageWhole 3 (some .boolean) :: gt
abbrev b_PW_whatIsWrong : ByteArray := prog_3_method_5_code
def y_PW_whatIsWrong : MethodName := ⟨R_PW, "whatIsWrong", "([III)I"⟩
def w_PW_whatIsWrong : List Cond := .code y_PW_whatIsWrong b_PW_whatIsWrong 4 (some .int) :: gt
abbrev b_PW_digest : ByteArray := prog_3_method_6_code
def y_PW_digest : MethodName := ⟨R_PW, "digest", "(II)I"⟩
def w_PW_digest : List Cond := .code y_PW_digest b_PW_digest 2 (some .int) :: gt
abbrev b_Sg_walk : ByteArray := prog_4_method_2_code
def y_Sg_walk : MethodName := ⟨R_Sg, "walk", "(IIII)I"⟩
def w_Sg_walk : List Cond := .code y_Sg_walk b_Sg_walk 6 (some .int) :: gt
abbrev b_Sg_message : ByteArray := prog_4_method_3_code
def y_Sg_message : MethodName := ⟨R_Sg, "message", "([II)I"⟩
def w_Sg_message : List Cond := .code y_Sg_message b_Sg_message 4 (some .int) :: gt
abbrev b_Sg_digit : ByteArray := prog_4_method_4_code
def y_Sg_digit : MethodName := ⟨R_Sg, "digit", "(II)I"⟩
def w_Sg_digit : List Cond := .code y_Sg_digit b_Sg_digit 4 (some .int) :: gt
abbrev b_Sg_above : ByteArray := prog_4_method_5_code
def y_Sg_above : MethodName := ⟨R_Sg, "above", "(III)I"⟩
def w_Sg_above : List Cond := .code y_Sg_above b_Sg_above 3 (some .int) :: gt
abbrev b_Sg_isSigned : ByteArray := prog_4_method_6_code
def y_Sg_isSigned : MethodName := ⟨R_Sg, "isSigned", "([III)Z"⟩
def w_Sg_isSigned : List Cond := .code y_Sg_isSigned b_Sg_isSigned 4 (some .boolean) :: gt
abbrev b_Sg_top : ByteArray := prog_4_method_7_code
def y_Sg_top : MethodName := ⟨R_Sg, "top", "([III)I"⟩
def w_Sg_top : List Cond := .code y_Sg_top b_Sg_top 8 (some .int) :: gt
abbrev b_Sg_leaf : ByteArray := prog_4_method_8_code
def y_Sg_leaf : MethodName := ⟨R_Sg, "leaf", "([III)I"⟩
def w_Sg_leaf : List Cond := .code y_Sg_leaf b_Sg_leaf 6 (some .int) :: gt
abbrev b_Tb_homeIn : ByteArray := prog_6_method_2_code
def y_Tb_homeIn : MethodName := ⟨R_Tb, "homeIn", "(I)I"⟩
def w_Tb_homeIn : List Cond := .code y_Tb_homeIn b_Tb_homeIn 1 (some .int) :: gt
abbrev b_Tb_stateIn : ByteArray := prog_6_method_3_code
def y_Tb_stateIn : MethodName := ⟨R_Tb, "stateIn", "(II)I"⟩
def w_Tb_stateIn : List Cond := .code y_Tb_stateIn b_Tb_stateIn 2 (some .int) :: gt
abbrev b_Tb_withHome : ByteArray := prog_6_method_4_code
def y_Tb_withHome : MethodName := ⟨R_Tb, "withHome", "(II)I"⟩
def w_Tb_withHome : List Cond := .code y_Tb_withHome b_Tb_withHome 2 (some .int) :: gt
abbrev b_Tb_withState : ByteArray := prog_6_method_5_code
def y_Tb_withState : MethodName := ⟨R_Tb, "withState", "(III)I"⟩
def w_Tb_withState : List Cond := .code y_Tb_withState b_Tb_withState 3 (some .int) :: gt
abbrev b_Tb_trialIn : ByteArray := prog_6_method_6_code
def y_Tb_trialIn : MethodName := ⟨R_Tb, "trialIn", "(I)I"⟩
def w_Tb_trialIn : List Cond := .code y_Tb_trialIn b_Tb_trialIn 2 (some .int) :: gt
abbrev b_Tb_shift : ByteArray := prog_6_method_7_code
def y_Tb_shift : MethodName := ⟨R_Tb, "shift", "(I)I"⟩
def w_Tb_shift : List Cond := .code y_Tb_shift b_Tb_shift 1 (some .int) :: gt
abbrev b_St_init : ByteArray := prog_5_method_1_code
def y_St_init : MethodName := ⟨R_St, "<init>", "([I)V"⟩
def w_St_init : List Cond := .code y_St_init b_St_init 2 none :: gt
abbrev b_St_isPlace : ByteArray := prog_5_method_2_code
def y_St_isPlace : MethodName := ⟨R_St, "isPlace", "(I)Z"⟩
def w_St_isPlace : List Cond := .code y_St_isPlace b_St_isPlace 1 (some .boolean) :: gt
abbrev b_St_slotPlace : ByteArray := prog_5_method_3_code
def y_St_slotPlace : MethodName := ⟨R_St, "slotPlace", "(I)I"⟩
def w_St_slotPlace : List Cond := .code y_St_slotPlace b_St_slotPlace 1 (some .int) :: gt
abbrev b_St_versionIn : ByteArray := prog_5_method_4_code
def y_St_versionIn : MethodName := ⟨R_St, "versionIn", "(I)I"⟩
def w_St_versionIn : List Cond := .code y_St_versionIn b_St_versionIn 2 (some .int) :: gt
abbrev b_St_entry : ByteArray := prog_5_method_5_code
def y_St_entry : MethodName := ⟨R_St, "entry", "()I"⟩
def w_St_entry : List Cond := .code y_St_entry b_St_entry 2 (some .int) :: gt
abbrev b_St_writeTable : ByteArray := prog_5_method_6_code
def y_St_writeTable : MethodName := ⟨R_St, "writeTable", "(I)Z"⟩
def w_St_writeTable : List Cond := .code y_St_writeTable b_St_writeTable 6 (some .boolean) :: gt
abbrev b_St_writePackage : ByteArray := prog_5_method_7_code
def y_St_writePackage : MethodName := ⟨R_St, "writePackage", "(I[II)Z"⟩
def w_St_writePackage : List Cond := .code y_St_writePackage b_St_writePackage 6 (some .boolean) :: gt
abbrev b_St_blowUpTo : ByteArray := prog_5_method_8_code
def y_St_blowUpTo : MethodName := ⟨R_St, "blowUpTo", "(I)Z"⟩
def w_St_blowUpTo : List Cond := .code y_St_blowUpTo b_St_blowUpTo 4 (some .boolean) :: gt
abbrev b_St_put : ByteArray := prog_5_method_9_code
def y_St_put : MethodName := ⟨R_St, "put", "(II)Z"⟩
def w_St_put : List Cond := .code y_St_put b_St_put 3 (some .boolean) :: gt
abbrev b_St_mayWrite : ByteArray := prog_5_method_10_code
def y_St_mayWrite : MethodName := ⟨R_St, "mayWrite", "()Z"⟩
def w_St_mayWrite : List Cond := .code y_St_mayWrite b_St_mayWrite 1 (some .boolean) :: gt
abbrev b_St_currentRecord : ByteArray := prog_5_method_11_code
def y_St_currentRecord : MethodName := ⟨R_St, "currentRecord", "()I"⟩
def w_St_currentRecord : List Cond := .code y_St_currentRecord b_St_currentRecord 3 (some .int) :: gt
abbrev b_St_isGood : ByteArray := prog_5_method_12_code
def y_St_isGood : MethodName := ⟨R_St, "isGood", "(I)Z"⟩
def w_St_isGood : List Cond := .code y_St_isGood b_St_isGood 3 (some .boolean) :: gt
abbrev b_St_recordPlace : ByteArray := prog_5_method_13_code
def y_St_recordPlace : MethodName := ⟨R_St, "recordPlace", "(I)I"⟩
def w_St_recordPlace : List Cond := .code y_St_recordPlace b_St_recordPlace 1 (some .int) :: gt
abbrev b_St_check : ByteArray := prog_5_method_14_code
def y_St_check : MethodName := ⟨R_St, "check", "(II)I"⟩
def w_St_check : List Cond := .code y_St_check b_St_check 2 (some .int) :: gt
abbrev b_Mo_init : ByteArray := prog_8_method_1_code
def y_Mo_init : MethodName := ⟨R_Mo, "<init>", "(II)V"⟩
def w_Mo_init : List Cond := .code y_Mo_init b_Mo_init 3 none :: gt
abbrev b_Mo_h : ByteArray := prog_8_method_2_code
def y_Mo_h : MethodName := ⟨R_Mo, "h", "(II)I"⟩
def w_Mo_h : List Cond := .code y_Mo_h b_Mo_h 3 (some .int) :: gt
abbrev b_Mo_check : ByteArray := prog_8_method_3_code
def y_Mo_check : MethodName := ⟨R_Mo, "check", "(II)I"⟩
def w_Mo_check : List Cond := .code y_Mo_check b_Mo_check 3 (some .int) :: gt
abbrev b_Mo_along : ByteArray := prog_8_method_4_code
def y_Mo_along : MethodName := ⟨R_Mo, "along", "(IIII)I"⟩
def w_Mo_along : List Cond := .code y_Mo_along b_Mo_along 6 (some .int) :: gt
abbrev b_Mo_chain : ByteArray := prog_8_method_5_code
def y_Mo_chain : MethodName := ⟨R_Mo, "chain", "(III)I"⟩
def w_Mo_chain : List Cond := .code y_Mo_chain b_Mo_chain 5 (some .int) :: gt
abbrev b_Mo_leaf : ByteArray := prog_8_method_6_code
def y_Mo_leaf : MethodName := ⟨R_Mo, "leaf", "(I)I"⟩
def w_Mo_leaf : List Cond := .code y_Mo_leaf b_Mo_leaf 4 (some .int) :: gt
abbrev b_Mo_join : ByteArray := prog_8_method_7_code
def y_Mo_join : MethodName := ⟨R_Mo, "join", "(III)I"⟩
def w_Mo_join : List Cond := .code y_Mo_join b_Mo_join 4 (some .int) :: gt
abbrev b_Mo_tree : ByteArray := prog_8_method_8_code
def y_Mo_tree : MethodName := ⟨R_Mo, "tree", "()V"⟩
def w_Mo_tree : List Cond := .code y_Mo_tree b_Mo_tree 3 none :: gt
abbrev b_Mo_key : ByteArray := prog_8_method_9_code
def y_Mo_key : MethodName := ⟨R_Mo, "key", "()I"⟩
def w_Mo_key : List Cond := .code y_Mo_key b_Mo_key 1 (some .int) :: gt
abbrev b_Mo_digits : ByteArray := prog_8_method_10_code
def y_Mo_digits : MethodName := ⟨R_Mo, "digits", "(I)V"⟩
def w_Mo_digits : List Cond := .code y_Mo_digits b_Mo_digits 5 none :: gt
abbrev b_Mo_signed : ByteArray := prog_8_method_11_code
def y_Mo_signed : MethodName := ⟨R_Mo, "signed", "(I)Z"⟩
def w_Mo_signed : List Cond := .code y_Mo_signed b_Mo_signed 8 (some .boolean) :: gt
abbrev b_Mo_pack : ByteArray := prog_8_method_12_code
def y_Mo_pack : MethodName := ⟨R_Mo, "pack", "(IIII)V"⟩
def w_Mo_pack : List Cond := .code y_Mo_pack b_Mo_pack 5 none :: gt
abbrev b_Mo_seal : ByteArray := prog_8_method_13_code
def y_Mo_seal : MethodName := ⟨R_Mo, "seal", "(II)V"⟩
def w_Mo_seal : List Cond := .code y_Mo_seal b_Mo_seal 5 none :: gt
abbrev b_Mo_sign : ByteArray := prog_8_method_14_code
def y_Mo_sign : MethodName := ⟨R_Mo, "sign", "(IIII)I"⟩
def w_Mo_sign : List Cond := .code y_Mo_sign b_Mo_sign 6 (some .int) :: gt
abbrev b_Mo_noWord : ByteArray := prog_8_method_15_code
def y_Mo_noWord : MethodName := ⟨R_Mo, "noWord", "(II)Z"⟩
def w_Mo_noWord : List Cond := .code y_Mo_noWord b_Mo_noWord 3 (some .boolean) :: gt
abbrev b_Mo_alter : ByteArray := prog_8_method_16_code
def y_Mo_alter : MethodName := ⟨R_Mo, "alter", "(III)Z"⟩
def w_Mo_alter : List Cond := .code y_Mo_alter b_Mo_alter 4 (some .boolean) :: gt
abbrev b_Mo_word : ByteArray := prog_8_method_17_code
def y_Mo_word : MethodName := ⟨R_Mo, "word", "(II)I"⟩
def w_Mo_word : List Cond := .code y_Mo_word b_Mo_word 3 (some .int) :: gt
abbrev b_Mo_stranger : ByteArray := prog_8_method_18_code
def y_Mo_stranger : MethodName := ⟨R_Mo, "stranger", "(I)I"⟩
def w_Mo_stranger : List Cond := .code y_Mo_stranger b_Mo_stranger 3 (some .int) :: gt
abbrev b_Mo_fault : ByteArray := prog_8_method_19_code
def y_Mo_fault : MethodName := ⟨R_Mo, "fault", "(I)I"⟩
def w_Mo_fault : List Cond := .code y_Mo_fault b_Mo_fault 4 (some .int) :: gt
abbrev b_Mo_cut : ByteArray := prog_8_method_20_code
def y_Mo_cut : MethodName := ⟨R_Mo, "cut", "(I)Z"⟩
def w_Mo_cut : List Cond := .code y_Mo_cut b_Mo_cut 2 (some .boolean) :: gt
abbrev b_Mo_may : ByteArray := prog_8_method_21_code
def y_Mo_may : MethodName := ⟨R_Mo, "may", "()Z"⟩
def w_Mo_may : List Cond := .code y_Mo_may b_Mo_may 1 (some .boolean) :: gt
abbrev b_Mo_put : ByteArray := prog_8_method_22_code
def y_Mo_put : MethodName := ⟨R_Mo, "put", "(II)V"⟩
def w_Mo_put : List Cond := .code y_Mo_put b_Mo_put 3 none :: gt
abbrev b_Mo_blow : ByteArray := prog_8_method_23_code
def y_Mo_blow : MethodName := ⟨R_Mo, "blow", "(I)V"⟩
def w_Mo_blow : List Cond := .code y_Mo_blow b_Mo_blow 3 none :: gt
abbrev b_Mo_answer : ByteArray := prog_8_method_24_code
def y_Mo_answer : MethodName := ⟨R_Mo, "answer", "(I)I"⟩
def w_Mo_answer : List Cond := .code y_Mo_answer b_Mo_answer 2 (some .int) :: gt
abbrev b_Mo_good : ByteArray := prog_8_method_25_code
def y_Mo_good : MethodName := ⟨R_Mo, "good", "(I)Z"⟩
def w_Mo_good : List Cond := .code y_Mo_good b_Mo_good 3 (some .boolean) :: gt
abbrev b_Mo_current : ByteArray := prog_8_method_26_code
def y_Mo_current : MethodName := ⟨R_Mo, "current", "()I"⟩
def w_Mo_current : List Cond := .code y_Mo_current b_Mo_current 3 (some .int) :: gt
abbrev b_Mo_entry : ByteArray := prog_8_method_27_code
def y_Mo_entry : MethodName := ⟨R_Mo, "entry", "()I"⟩
def w_Mo_entry : List Cond := .code y_Mo_entry b_Mo_entry 2 (some .int) :: gt
abbrev b_Mo_home : ByteArray := prog_8_method_28_code
def y_Mo_home : MethodName := ⟨R_Mo, "home", "()I"⟩
def w_Mo_home : List Cond := .code y_Mo_home b_Mo_home 1 (some .int) :: gt
abbrev b_Mo_state : ByteArray := prog_8_method_29_code
def y_Mo_state : MethodName := ⟨R_Mo, "state", "(I)I"⟩
def w_Mo_state : List Cond := .code y_Mo_state b_Mo_state 2 (some .int) :: gt
abbrev b_Mo_table : ByteArray := prog_8_method_30_code
def y_Mo_table : MethodName := ⟨R_Mo, "table", "(III)V"⟩
def w_Mo_table : List Cond := .code y_Mo_table b_Mo_table 9 none :: gt
abbrev b_Mo_attempt : ByteArray := prog_8_method_31_code
def y_Mo_attempt : MethodName := ⟨R_Mo, "attempt", "(I)Z"⟩
def w_Mo_attempt : List Cond := .code y_Mo_attempt b_Mo_attempt 6 (some .boolean) :: gt
abbrev b_Mo_update : ByteArray := prog_8_method_32_code
def y_Mo_update : MethodName := ⟨R_Mo, "update", "(I)I"⟩
def w_Mo_update : List Cond := .code y_Mo_update b_Mo_update 4 (some .int) :: gt
abbrev b_Mo_boot : ByteArray := prog_8_method_33_code
def y_Mo_boot : MethodName := ⟨R_Mo, "boot", "()I"⟩
def w_Mo_boot : List Cond := .code y_Mo_boot b_Mo_boot 6 (some .int) :: gt
abbrev b_Mo_confirm : ByteArray := prog_8_method_34_code
def y_Mo_confirm : MethodName := ⟨R_Mo, "confirm", "()I"⟩
def w_Mo_confirm : List Cond := .code y_Mo_confirm b_Mo_confirm 1 (some .int) :: gt
abbrev b_Mo_running : ByteArray := prog_8_method_35_code
def y_Mo_running : MethodName := ⟨R_Mo, "running", "()I"⟩
def w_Mo_running : List Cond := .code y_Mo_running b_Mo_running 1 (some .int) :: gt
abbrev b_Mo_onTrial : ByteArray := prog_8_method_36_code
def y_Mo_onTrial : MethodName := ⟨R_Mo, "onTrial", "()Z"⟩
def w_Mo_onTrial : List Cond := .code y_Mo_onTrial b_Mo_onTrial 1 (some .boolean) :: gt
abbrev b_Mo_counter : ByteArray := prog_8_method_37_code
def y_Mo_counter : MethodName := ⟨R_Mo, "counter", "()I"⟩
def w_Mo_counter : List Cond := .code y_Mo_counter b_Mo_counter 1 (some .int) :: gt
abbrev b_Mo_peek : ByteArray := prog_8_method_38_code
def y_Mo_peek : MethodName := ⟨R_Mo, "peek", "(I)I"⟩
def w_Mo_peek : List Cond := .code y_Mo_peek b_Mo_peek 2 (some .int) :: gt
abbrev b_Mo_poke : ByteArray := prog_8_method_39_code
def y_Mo_poke : MethodName := ⟨R_Mo, "poke", "(II)Z"⟩
def w_Mo_poke : List Cond := .code y_Mo_poke b_Mo_poke 3 (some .boolean) :: gt
abbrev b_Mo_register : ByteArray := prog_8_method_40_code
def y_Mo_register : MethodName := ⟨R_Mo, "register", "()I"⟩
def w_Mo_register : List Cond := .code y_Mo_register b_Mo_register 1 (some .int) :: gt
abbrev b_Mo_log : ByteArray := prog_8_method_41_code
def y_Mo_log : MethodName := ⟨R_Mo, "log", "(I)I"⟩
def w_Mo_log : List Cond := .code y_Mo_log b_Mo_log 2 (some .int) :: gt
abbrev b_Mo_writes : ByteArray := prog_8_method_42_code
def y_Mo_writes : MethodName := ⟨R_Mo, "writes", "()I"⟩
def w_Mo_writes : List Cond := .code y_Mo_writes b_Mo_writes 1 (some .int) :: gt
theorem gd {c : Cond} (h : c ∈ gt) : GoodIn gt (c :: gt) := by
  intro w hw
  have hm : w ∈ gt := by
    rcases List.mem_cons.mp hw with e | h2
    · rw [e]; exact h
    · exact h2
  exact ⟨hm, good_of_word (List.mem_filter.mp hm).2⟩
theorem gi {w : Cond} {i : Nat} (h : lw_tbl[i]? = some w) (hg : goodWord w = true) : w ∈ gt := List.mem_filter.mpr ⟨List.mem_of_getElem? h, hg⟩
/-- the private members of nest mates that are reached -/
def nst (U : State) : Prop := va_Nw (.methodLinkNest R_Mk 57 y_TS_hash "TrialSlots") U ∧ va_Nw (.methodLinkNest R_Sg 7 y_TS_hash "TrialSlots") U ∧ va_Nw (.methodLinkNest R_PW 28 y_TS_hash "TrialSlots") U ∧ va_Nw (.methodLinkNest R_St 67 y_TS_hash "TrialSlots") U ∧ va_Nw (.fieldLinkNest R_TS 141 "TrialSlots$Store" "words" "[I" "TrialSlots") U ∧ va_Nw (.fieldLinkNest R_TS 132 "TrialSlots$Store" "blown" "I" "TrialSlots") U ∧ va_Nw (.fieldLinkNest R_TS 144 "TrialSlots$Store" "writesDone" "I" "TrialSlots") U ∧ va_Nw (.fieldLinkNest R_TS 86 "TrialSlots$Store" "writesLeft" "I" "TrialSlots") U
theorem nst_0 {U : State} (h : nst U) : va_Nw (.methodLinkNest R_Mk 57 y_TS_hash "TrialSlots") U := h.1
theorem nst_1 {U : State} (h : nst U) : va_Nw (.methodLinkNest R_Sg 7 y_TS_hash "TrialSlots") U := h.2.1
theorem nst_2 {U : State} (h : nst U) : va_Nw (.methodLinkNest R_PW 28 y_TS_hash "TrialSlots") U := h.2.2.1
theorem nst_3 {U : State} (h : nst U) : va_Nw (.methodLinkNest R_St 67 y_TS_hash "TrialSlots") U := h.2.2.2.1
theorem nst_4 {U : State} (h : nst U) : va_Nw (.fieldLinkNest R_TS 141 "TrialSlots$Store" "words" "[I" "TrialSlots") U := h.2.2.2.2.1
theorem nst_5 {U : State} (h : nst U) : va_Nw (.fieldLinkNest R_TS 132 "TrialSlots$Store" "blown" "I" "TrialSlots") U := h.2.2.2.2.2.1
theorem nst_6 {U : State} (h : nst U) : va_Nw (.fieldLinkNest R_TS 144 "TrialSlots$Store" "writesDone" "I" "TrialSlots") U := h.2.2.2.2.2.2.1
theorem nst_7 {U : State} (h : nst U) : va_Nw (.fieldLinkNest R_TS 86 "TrialSlots$Store" "writesLeft" "I" "TrialSlots") U := h.2.2.2.2.2.2.2
theorem nst.warm {s U : State} (hW : s.WarmedH U.vm) (h : nst s) : nst U := ⟨va_Nw.warmM hW (nst_0 h), va_Nw.warmM hW (nst_1 h), va_Nw.warmM hW (nst_2 h), va_Nw.warmM hW (nst_3 h), va_Nw.warmF hW (nst_4 h), va_Nw.warmF hW (nst_5 h), va_Nw.warmF hW (nst_6 h), va_Nw.warmF hW (nst_7 h)⟩
theorem nst.same {u U : State} (hv : u.vm = U.vm) (h : nst u) : nst U := ⟨va_Nw.same rfl hv (nst_0 h), va_Nw.same rfl hv (nst_1 h), va_Nw.same rfl hv (nst_2 h), va_Nw.same rfl hv (nst_3 h), va_Nw.same rfl hv (nst_4 h), va_Nw.same rfl hv (nst_5 h), va_Nw.same rfl hv (nst_6 h), va_Nw.same rfl hv (nst_7 h)⟩
def KN (dC : Nat → ClassId) (dI : Nat → Nat → Nat) (cI : ClassId) (U : State) : Prop := va_K (dC, dI) classes [(cI, .int)] U ∧ nst U
theorem KN.warm {dC : Nat → ClassId} {dI : Nat → Nat → Nat} {cI : ClassId} {s U : State} (h : KN dC dI cI s) (hW : s.WarmedH U.vm) : KN dC dI cI U := ⟨va_K.moved hW.alike h.1, h.2.warm hW⟩
theorem KN.call {dC : Nat → ClassId} {dI : Nat → Nat → Nat} {cI : ClassId} {U : State} {g : JFrame} {mk : MethodId} {a : Array Value} (h : KN dC dI cI U) : KN dC dI cI (U.calling g mk a) := ⟨va_K.moved (u := U) (U := U.calling g mk a) (Vm.Alike.refl U.vm) h.1, nst.same (u := U) rfl h.2⟩
end
section
theorem kw_0 : (.selects R_Mk y_Mk_putChains y_Mk_putChains : Cond) ∈ gt := gi (i := 0) (by decide +kernel) (by decide +kernel)
theorem kw_1 : (.selects R_Mk y_Mk_putPath y_Mk_putPath : Cond) ∈ gt := gi (i := 1) (by decide +kernel) (by decide +kernel)
theorem kw_4 : (.selects R_St y_St_currentRecord y_St_currentRecord : Cond) ∈ gt := gi (i := 4) (by decide +kernel) (by decide +kernel)
theorem kw_5 : (.selects R_St y_St_isGood y_St_isGood : Cond) ∈ gt := gi (i := 5) (by decide +kernel) (by decide +kernel)
theorem kw_7 : (.selects R_St y_St_put y_St_put : Cond) ∈ gt := gi (i := 7) (by decide +kernel) (by decide +kernel)
theorem kw_8 : (.selects R_St y_St_mayWrite y_St_mayWrite : Cond) ∈ gt := gi (i := 8) (by decide +kernel) (by decide +kernel)
theorem kw_35 : (.initialized R_TS : Cond) ∈ gt := gi (i := 35) (by decide +kernel) (by decide +kernel)
theorem kw_36 : (.initialized R_Mk : Cond) ∈ gt := gi (i := 36) (by decide +kernel) (by decide +kernel)
theorem kw_37 : (.initialized R_Sg : Cond) ∈ gt := gi (i := 37) (by decide +kernel) (by decide +kernel)
theorem kw_38 : (.initialized R_PW : Cond) ∈ gt := gi (i := 38) (by decide +kernel) (by decide +kernel)
theorem kw_39 : (.initialized R_St : Cond) ∈ gt := gi (i := 39) (by decide +kernel) (by decide +kernel)
theorem kw_42 : (.initialized R_Tb : Cond) ∈ gt := gi (i := 42) (by decide +kernel) (by decide +kernel)
theorem kw_43 : (.initialized "java/lang/Math" : Cond) ∈ gt := gi (i := 43) (by decide +kernel) (by decide +kernel)
theorem kw_61 : (.methodLink R_Mk 47 y_Mk_chainStart : Cond) ∈ gt := gi (i := 61) (by decide +kernel) (by decide +kernel)
theorem kw_62 : (.static y_Mk_chainStart : Cond) ∈ gt := gi (i := 62) (by decide +kernel) (by decide +kernel)
theorem kw_63 : (.code y_Mk_chainStart b_Mk_chainStart 3 (some .int) : Cond) ∈ gt := gi (i := 63) (by rfl) (by decide +kernel)
theorem kw_65 : (.static y_TS_hash : Cond) ∈ gt := gi (i := 65) (by decide +kernel) (by decide +kernel)
theorem kw_66 : (.code y_TS_hash b_TS_hash 3 (some .int) : Cond) ∈ gt := gi (i := 66) (by rfl) (by decide +kernel)
theorem kw_67 : (.constant R_TS 173 1398175271 : Cond) ∈ gt := gi (i := 67) (by decide +kernel) (by decide +kernel)
theorem kw_68 : (.constant R_TS 174 796343837 : Cond) ∈ gt := gi (i := 68) (by decide +kernel) (by decide +kernel)
theorem kw_69 : (.methodLink R_Mk 53 y_Sg_walk : Cond) ∈ gt := gi (i := 69) (by decide +kernel) (by decide +kernel)
theorem kw_70 : (.static y_Sg_walk : Cond) ∈ gt := gi (i := 70) (by decide +kernel) (by decide +kernel)
theorem kw_71 : (.code y_Sg_walk b_Sg_walk 6 (some .int) : Cond) ∈ gt := gi (i := 71) (by rfl) (by decide +kernel)
theorem kw_74 : (.static y_Sg_above : Cond) ∈ gt := gi (i := 74) (by decide +kernel) (by decide +kernel)
theorem kw_75 : (.code y_Sg_above b_Sg_above 3 (some .int) : Cond) ∈ gt := gi (i := 75) (by rfl) (by decide +kernel)
theorem kw_76 : (.fieldLink R_Mk 7 "TrialSlots$Maker" "secret" "I" : Cond) ∈ gt := gi (i := 76) (by decide +kernel) (by decide +kernel)
theorem kw_77 : (.fieldLink R_Mk 15 "TrialSlots$Maker" "nodes" "[I" : Cond) ∈ gt := gi (i := 77) (by decide +kernel) (by decide +kernel)
theorem kw_78 : (.fieldLink R_Mk 19 "TrialSlots$Maker" "nextKey" "I" : Cond) ∈ gt := gi (i := 78) (by decide +kernel) (by decide +kernel)
theorem kw_91 : (.methodLink R_Mk 30 y_PW_putStage : Cond) ∈ gt := gi (i := 91) (by decide +kernel) (by decide +kernel)
theorem kw_92 : (.static y_PW_putStage : Cond) ∈ gt := gi (i := 92) (by decide +kernel) (by decide +kernel)
theorem kw_93 : (.code y_PW_putStage b_PW_putStage 4 none : Cond) ∈ gt := gi (i := 93) (by rfl) (by decide +kernel)
theorem kw_94 : (.methodLink R_PW 11 y_PW_digest : Cond) ∈ gt := gi (i := 94) (by decide +kernel) (by decide +kernel)
theorem kw_95 : (.static y_PW_digest : Cond) ∈ gt := gi (i := 95) (by decide +kernel) (by decide +kernel)
theorem kw_96 : (.code y_PW_digest b_PW_digest 2 (some .int) : Cond) ∈ gt := gi (i := 96) (by rfl) (by decide +kernel)
theorem kw_98 : (.methodLink R_Mk 36 y_Mk_putChains : Cond) ∈ gt := gi (i := 98) (by decide +kernel) (by decide +kernel)
theorem kw_100 : (.instanceMethod y_Mk_putChains : Cond) ∈ gt := gi (i := 100) (by decide +kernel) (by decide +kernel)
theorem kw_101 : (.code y_Mk_putChains b_Mk_putChains 6 none : Cond) ∈ gt := gi (i := 101) (by rfl) (by decide +kernel)
theorem kw_102 : (.methodLink R_Mk 43 y_Sg_message : Cond) ∈ gt := gi (i := 102) (by decide +kernel) (by decide +kernel)
theorem kw_103 : (.static y_Sg_message : Cond) ∈ gt := gi (i := 103) (by decide +kernel) (by decide +kernel)
theorem kw_104 : (.code y_Sg_message b_Sg_message 4 (some .int) : Cond) ∈ gt := gi (i := 104) (by rfl) (by decide +kernel)
theorem kw_105 : (.methodLink R_Mk 50 y_Sg_digit : Cond) ∈ gt := gi (i := 105) (by decide +kernel) (by decide +kernel)
theorem kw_106 : (.static y_Sg_digit : Cond) ∈ gt := gi (i := 106) (by decide +kernel) (by decide +kernel)
theorem kw_107 : (.code y_Sg_digit b_Sg_digit 4 (some .int) : Cond) ∈ gt := gi (i := 107) (by rfl) (by decide +kernel)
theorem kw_108 : (.methodLink R_Mk 40 y_Mk_putPath : Cond) ∈ gt := gi (i := 108) (by decide +kernel) (by decide +kernel)
theorem kw_110 : (.instanceMethod y_Mk_putPath : Cond) ∈ gt := gi (i := 110) (by decide +kernel) (by decide +kernel)
theorem kw_111 : (.code y_Mk_putPath b_Mk_putPath 5 none : Cond) ∈ gt := gi (i := 111) (by rfl) (by decide +kernel)
theorem kw_121 : (.methodLink R_St 23 y_St_check : Cond) ∈ gt := gi (i := 121) (by decide +kernel) (by decide +kernel)
theorem kw_122 : (.static y_St_check : Cond) ∈ gt := gi (i := 122) (by decide +kernel) (by decide +kernel)
theorem kw_123 : (.code y_St_check b_St_check 2 (some .int) : Cond) ∈ gt := gi (i := 123) (by rfl) (by decide +kernel)
theorem kw_125 : (.fieldLink R_St 11 "TrialSlots$Store" "words" "[I" : Cond) ∈ gt := gi (i := 125) (by decide +kernel) (by decide +kernel)
theorem kw_127 : (.fieldLink R_St 27 "TrialSlots$Store" "blown" "I" : Cond) ∈ gt := gi (i := 127) (by decide +kernel) (by decide +kernel)
theorem kw_129 : (.fieldLink R_St 31 "TrialSlots$Store" "writesDone" "I" : Cond) ∈ gt := gi (i := 129) (by decide +kernel) (by decide +kernel)
theorem kw_131 : (.fieldLink R_St 34 "TrialSlots$Store" "writesLeft" "I" : Cond) ∈ gt := gi (i := 131) (by decide +kernel) (by decide +kernel)
theorem kw_183 : (.static y_PW_isVersion : Cond) ∈ gt := gi (i := 183) (by decide +kernel) (by decide +kernel)
theorem kw_184 : (.code y_PW_isVersion b_PW_isVersion 1 (some .boolean) : Cond) ∈ gt := gi (i := 184) (by rfl) (by decide +kernel)
theorem kw_215 : (.methodLink R_PW 15 y_PW_isVersion : Cond) ∈ gt := gi (i := 215) (by decide +kernel) (by decide +kernel)
theorem kw_216 : (.methodLink R_PW 19 y_Sg_isSigned : Cond) ∈ gt := gi (i := 216) (by decide +kernel) (by decide +kernel)
theorem kw_217 : (.static y_Sg_isSigned : Cond) ∈ gt := gi (i := 217) (by decide +kernel) (by decide +kernel)
theorem kw_218 : (.code y_Sg_isSigned b_Sg_isSigned 4 (some .boolean) : Cond) ∈ gt := gi (i := 218) (by rfl) (by decide +kernel)
theorem kw_219 : (.methodLink R_Sg 17 y_Sg_leaf : Cond) ∈ gt := gi (i := 219) (by decide +kernel) (by decide +kernel)
theorem kw_220 : (.static y_Sg_leaf : Cond) ∈ gt := gi (i := 220) (by decide +kernel) (by decide +kernel)
theorem kw_221 : (.code y_Sg_leaf b_Sg_leaf 6 (some .int) : Cond) ∈ gt := gi (i := 221) (by rfl) (by decide +kernel)
theorem kw_222 : (.methodLink R_Sg 28 y_Sg_message : Cond) ∈ gt := gi (i := 222) (by decide +kernel) (by decide +kernel)
theorem kw_223 : (.methodLink R_Sg 32 y_Sg_digit : Cond) ∈ gt := gi (i := 223) (by decide +kernel) (by decide +kernel)
theorem kw_224 : (.methodLink R_Sg 35 y_Sg_walk : Cond) ∈ gt := gi (i := 224) (by decide +kernel) (by decide +kernel)
theorem kw_225 : (.methodLink R_Sg 21 y_Sg_top : Cond) ∈ gt := gi (i := 225) (by decide +kernel) (by decide +kernel)
theorem kw_226 : (.static y_Sg_top : Cond) ∈ gt := gi (i := 226) (by decide +kernel) (by decide +kernel)
theorem kw_227 : (.code y_Sg_top b_Sg_top 8 (some .int) : Cond) ∈ gt := gi (i := 227) (by rfl) (by decide +kernel)
theorem kw_228 : (.methodLink R_Sg 24 y_Sg_above : Cond) ∈ gt := gi (i := 228) (by decide +kernel) (by decide +kernel)
theorem kw_229 : (.methodLink R_PW 25 y_PW_isStageWhole : Cond) ∈ gt := gi (i := 229) (by decide +kernel) (by decide +kernel)
theorem kw_230 : (.static y_PW_isStageWhole : Cond) ∈ gt := gi (i := 230) (by decide +kernel) (by decide +kernel)
theorem kw_231 : (.code y_PW_isStageWhole b_PW_isStageWhole 3 (some .boolean) : Cond) ∈ gt := gi (i := 231) (by rfl) (by decide +kernel)
theorem kw_244 : (.methodLink R_St 41 y_St_currentRecord : Cond) ∈ gt := gi (i := 244) (by decide +kernel) (by decide +kernel)
theorem kw_246 : (.instanceMethod y_St_currentRecord : Cond) ∈ gt := gi (i := 246) (by decide +kernel) (by decide +kernel)
theorem kw_247 : (.code y_St_currentRecord b_St_currentRecord 3 (some .int) : Cond) ∈ gt := gi (i := 247) (by rfl) (by decide +kernel)
theorem kw_248 : (.methodLink R_St 63 y_St_isGood : Cond) ∈ gt := gi (i := 248) (by decide +kernel) (by decide +kernel)
theorem kw_250 : (.instanceMethod y_St_isGood : Cond) ∈ gt := gi (i := 250) (by decide +kernel) (by decide +kernel)
theorem kw_251 : (.code y_St_isGood b_St_isGood 3 (some .boolean) : Cond) ∈ gt := gi (i := 251) (by rfl) (by decide +kernel)
theorem kw_252 : (.methodLink R_St 45 y_St_recordPlace : Cond) ∈ gt := gi (i := 252) (by decide +kernel) (by decide +kernel)
theorem kw_253 : (.static y_St_recordPlace : Cond) ∈ gt := gi (i := 253) (by decide +kernel) (by decide +kernel)
theorem kw_254 : (.code y_St_recordPlace b_St_recordPlace 1 (some .int) : Cond) ∈ gt := gi (i := 254) (by rfl) (by decide +kernel)
theorem kw_256 : (.static y_Tb_homeIn : Cond) ∈ gt := gi (i := 256) (by decide +kernel) (by decide +kernel)
theorem kw_257 : (.code y_Tb_homeIn b_Tb_homeIn 1 (some .int) : Cond) ∈ gt := gi (i := 257) (by rfl) (by decide +kernel)
theorem kw_265 : (.methodLink R_Tb 9 y_Tb_shift : Cond) ∈ gt := gi (i := 265) (by decide +kernel) (by decide +kernel)
theorem kw_266 : (.static y_Tb_shift : Cond) ∈ gt := gi (i := 266) (by decide +kernel) (by decide +kernel)
theorem kw_267 : (.code y_Tb_shift b_Tb_shift 1 (some .int) : Cond) ∈ gt := gi (i := 267) (by rfl) (by decide +kernel)
theorem kw_275 : (.methodLink R_St 50 y_St_put : Cond) ∈ gt := gi (i := 275) (by decide +kernel) (by decide +kernel)
theorem kw_277 : (.instanceMethod y_St_put : Cond) ∈ gt := gi (i := 277) (by decide +kernel) (by decide +kernel)
theorem kw_278 : (.code y_St_put b_St_put 3 (some .boolean) : Cond) ∈ gt := gi (i := 278) (by rfl) (by decide +kernel)
theorem kw_279 : (.methodLink R_St 59 y_St_mayWrite : Cond) ∈ gt := gi (i := 279) (by decide +kernel) (by decide +kernel)
theorem kw_281 : (.instanceMethod y_St_mayWrite : Cond) ∈ gt := gi (i := 281) (by decide +kernel) (by decide +kernel)
theorem kw_282 : (.code y_St_mayWrite b_St_mayWrite 1 (some .boolean) : Cond) ∈ gt := gi (i := 282) (by rfl) (by decide +kernel)
theorem kw_287 : (.methodLink R_St 37 y_St_slotPlace : Cond) ∈ gt := gi (i := 287) (by decide +kernel) (by decide +kernel)
theorem kw_288 : (.static y_St_slotPlace : Cond) ∈ gt := gi (i := 288) (by decide +kernel) (by decide +kernel)
theorem kw_289 : (.code y_St_slotPlace b_St_slotPlace 1 (some .int) : Cond) ∈ gt := gi (i := 289) (by rfl) (by decide +kernel)
theorem kw_309 : (.methodLink R_Tb 15 y_Tb_homeIn : Cond) ∈ gt := gi (i := 309) (by decide +kernel) (by decide +kernel)
theorem kw_310 : (.methodLink R_Tb 18 y_Tb_stateIn : Cond) ∈ gt := gi (i := 310) (by decide +kernel) (by decide +kernel)
theorem kw_311 : (.static y_Tb_stateIn : Cond) ∈ gt := gi (i := 311) (by decide +kernel) (by decide +kernel)
theorem kw_312 : (.code y_Tb_stateIn b_Tb_stateIn 2 (some .int) : Cond) ∈ gt := gi (i := 312) (by rfl) (by decide +kernel)
theorem kw_342 : (.methodLink R_St 54 Lib.Math.min.name : Cond) ∈ gt := gi (i := 342) (by decide +kernel) (by decide +kernel)
theorem kw_343 : (.static Lib.Math.min.name : Cond) ∈ gt := gi (i := 343) (by decide +kernel) (by decide +kernel)
theorem kw_344 : (.code Lib.Math.min.name Lib.Math.min.code 2 (some .int) : Cond) ∈ gt := gi (i := 344) (by rfl) (by decide +kernel)
end
section
theorem d_TS_init_0 : decode b_TS_init 0 = .ok (.aload_n 0, 1) := by decide +kernel
theorem d_TS_init_1 : decode b_TS_init 1 = .ok (.invokespecial 3, 3) := by decide +kernel
theorem d_TS_init_4 : decode b_TS_init 4 = .ok (.aload_n 0, 1) := by decide +kernel
theorem d_TS_init_5 : decode b_TS_init 5 = .ok (.new 9, 3) := by decide +kernel
theorem d_TS_init_8 : decode b_TS_init 8 = .ok (.dup, 1) := by decide +kernel
theorem d_TS_init_9 : decode b_TS_init 9 = .ok (.iload_n 1, 1) := by decide +kernel
theorem d_TS_init_10 : decode b_TS_init 10 = .ok (.invokespecial 11, 3) := by decide +kernel
theorem d_TS_init_13 : decode b_TS_init 13 = .ok (.putfield 14, 3) := by decide +kernel
theorem d_TS_init_16 : decode b_TS_init 16 = .ok (.bipush 17, 2) := by decide +kernel
theorem d_TS_init_18 : decode b_TS_init 18 = .ok (.newarray .int, 2) := by decide +kernel
theorem d_TS_init_20 : decode b_TS_init 20 = .ok (.astore_n 3, 1) := by decide +kernel
theorem d_TS_init_21 : decode b_TS_init 21 = .ok (.aload_n 0, 1) := by decide +kernel
theorem d_TS_init_22 : decode b_TS_init 22 = .ok (.getfield 14, 3) := by decide +kernel
theorem d_TS_init_25 : decode b_TS_init 25 = .ok (.aload_n 3, 1) := by decide +kernel
theorem d_TS_init_26 : decode b_TS_init 26 = .ok (.iconst 0, 1) := by decide +kernel
theorem d_TS_init_27 : decode b_TS_init 27 = .ok (.iconst 1, 1) := by decide +kernel
theorem d_TS_init_28 : decode b_TS_init 28 = .ok (.iload_n 2, 1) := by decide +kernel
theorem d_TS_init_29 : decode b_TS_init 29 = .ok (.iload_n 2, 1) := by decide +kernel
theorem d_TS_init_30 : decode b_TS_init 30 = .ok (.iconst 1, 1) := by decide +kernel
theorem d_TS_init_31 : decode b_TS_init 31 = .ok (.iadd, 1) := by decide +kernel
theorem d_TS_init_32 : decode b_TS_init 32 = .ok (.iload_n 2, 1) := by decide +kernel
theorem d_TS_init_33 : decode b_TS_init 33 = .ok (.iconst 2, 1) := by decide +kernel
theorem d_TS_init_34 : decode b_TS_init 34 = .ok (.iadd, 1) := by decide +kernel
theorem d_TS_init_35 : decode b_TS_init 35 = .ok (.invokevirtual 22, 3) := by decide +kernel
theorem d_TS_init_38 : decode b_TS_init 38 = .ok (.aload_n 0, 1) := by decide +kernel
theorem d_TS_init_39 : decode b_TS_init 39 = .ok (.new 26, 3) := by decide +kernel
theorem d_TS_init_42 : decode b_TS_init 42 = .ok (.dup, 1) := by decide +kernel
theorem d_TS_init_43 : decode b_TS_init 43 = .ok (.aload_n 3, 1) := by decide +kernel
theorem d_TS_init_44 : decode b_TS_init 44 = .ok (.invokespecial 28, 3) := by decide +kernel
theorem d_TS_init_47 : decode b_TS_init 47 = .ok (.putfield 31, 3) := by decide +kernel
theorem d_TS_init_50 : decode b_TS_init 50 = .ok (.aload_n 0, 1) := by decide +kernel
theorem d_TS_init_51 : decode b_TS_init 51 = .ok (.bipush 119, 2) := by decide +kernel
theorem d_TS_init_53 : decode b_TS_init 53 = .ok (.newarray .int, 2) := by decide +kernel
theorem d_TS_init_55 : decode b_TS_init 55 = .ok (.putfield 35, 3) := by decide +kernel
theorem d_TS_init_58 : decode b_TS_init 58 = .ok (.aload_n 0, 1) := by decide +kernel
theorem d_TS_init_59 : decode b_TS_init 59 = .ok (.iconst 0, 1) := by decide +kernel
theorem d_TS_init_60 : decode b_TS_init 60 = .ok (.putfield 39, 3) := by decide +kernel
theorem d_TS_init_63 : decode b_TS_init 63 = .ok (.aload_n 0, 1) := by decide +kernel
theorem d_TS_init_64 : decode b_TS_init 64 = .ok (.iconst 3, 1) := by decide +kernel
theorem d_TS_init_65 : decode b_TS_init 65 = .ok (.newarray .int, 2) := by decide +kernel
theorem d_TS_init_67 : decode b_TS_init 67 = .ok (.putfield 43, 3) := by decide +kernel
theorem d_TS_init_70 : decode b_TS_init 70 = .ok (.aload_n 0, 1) := by decide +kernel
theorem d_TS_init_71 : decode b_TS_init 71 = .ok (.iconst (-1), 1) := by decide +kernel
theorem d_TS_init_72 : decode b_TS_init 72 = .ok (.putfield 46, 3) := by decide +kernel
theorem d_TS_init_75 : decode b_TS_init 75 = .ok (.aload_n 0, 1) := by decide +kernel
theorem d_TS_init_76 : decode b_TS_init 76 = .ok (.iconst 0, 1) := by decide +kernel
theorem d_TS_init_77 : decode b_TS_init 77 = .ok (.putfield 49, 3) := by decide +kernel
theorem d_TS_init_80 : decode b_TS_init 80 = .ok (.aload_n 0, 1) := by decide +kernel
theorem d_TS_init_81 : decode b_TS_init 81 = .ok (.iconst 0, 1) := by decide +kernel
theorem d_TS_init_82 : decode b_TS_init 82 = .ok (.putfield 53, 3) := by decide +kernel
theorem d_TS_init_85 : decode b_TS_init 85 = .ok (.aload_n 0, 1) := by decide +kernel
theorem d_TS_init_86 : decode b_TS_init 86 = .ok (.iconst 0, 1) := by decide +kernel
theorem d_TS_init_87 : decode b_TS_init 87 = .ok (.putfield 56, 3) := by decide +kernel
theorem d_TS_init_90 : decode b_TS_init 90 = .ok (.return_, 1) := by decide +kernel
theorem d_TS_key_0 : decode b_TS_key 0 = .ok (.aload_n 0, 1) := by decide +kernel
theorem d_TS_key_1 : decode b_TS_key 1 = .ok (.getfield 14, 3) := by decide +kernel
theorem d_TS_key_4 : decode b_TS_key 4 = .ok (.invokevirtual 59, 3) := by decide +kernel
theorem d_TS_key_7 : decode b_TS_key 7 = .ok (.ireturn, 1) := by decide +kernel
theorem d_TS_sign_0 : decode b_TS_sign 0 = .ok (.iload_n 1, 1) := by decide +kernel
theorem d_TS_sign_1 : decode b_TS_sign 1 = .ok (.invokestatic 63, 3) := by decide +kernel
theorem d_TS_sign_4 : decode b_TS_sign 4 = .ok (.ifCond .eq (22), 3) := by decide +kernel
theorem d_TS_sign_7 : decode b_TS_sign 7 = .ok (.aload_n 0, 1) := by decide +kernel
theorem d_TS_sign_8 : decode b_TS_sign 8 = .ok (.getfield 14, 3) := by decide +kernel
theorem d_TS_sign_11 : decode b_TS_sign 11 = .ok (.invokevirtual 67, 3) := by decide +kernel
theorem d_TS_sign_14 : decode b_TS_sign 14 = .ok (.ifCond .eq (12), 3) := by decide +kernel
theorem d_TS_sign_17 : decode b_TS_sign 17 = .ok (.aload_n 0, 1) := by decide +kernel
theorem d_TS_sign_18 : decode b_TS_sign 18 = .ok (.getfield 39, 3) := by decide +kernel
theorem d_TS_sign_21 : decode b_TS_sign 21 = .ok (.bipush 7, 2) := by decide +kernel
theorem d_TS_sign_23 : decode b_TS_sign 23 = .ok (.if_icmp .lt (5), 3) := by decide +kernel
theorem d_TS_sign_26 : decode b_TS_sign 26 = .ok (.iconst (-1), 1) := by decide +kernel
theorem d_TS_sign_27 : decode b_TS_sign 27 = .ok (.ireturn, 1) := by decide +kernel
theorem d_TS_sign_28 : decode b_TS_sign 28 = .ok (.aload_n 0, 1) := by decide +kernel
theorem d_TS_sign_29 : decode b_TS_sign 29 = .ok (.getfield 39, 3) := by decide +kernel
theorem d_TS_sign_32 : decode b_TS_sign 32 = .ok (.istore 5, 2) := by decide +kernel
theorem d_TS_sign_34 : decode b_TS_sign 34 = .ok (.aload_n 0, 1) := by decide +kernel
theorem d_TS_sign_35 : decode b_TS_sign 35 = .ok (.getfield 14, 3) := by decide +kernel
theorem d_TS_sign_38 : decode b_TS_sign 38 = .ok (.aload_n 0, 1) := by decide +kernel
theorem d_TS_sign_39 : decode b_TS_sign 39 = .ok (.getfield 35, 3) := by decide +kernel
theorem d_TS_sign_42 : decode b_TS_sign 42 = .ok (.iload 5, 2) := by decide +kernel
theorem d_TS_sign_44 : decode b_TS_sign 44 = .ok (.invokestatic 71, 3) := by decide +kernel
theorem d_TS_sign_47 : decode b_TS_sign 47 = .ok (.iload_n 1, 1) := by decide +kernel
theorem d_TS_sign_48 : decode b_TS_sign 48 = .ok (.iload_n 2, 1) := by decide +kernel
theorem d_TS_sign_49 : decode b_TS_sign 49 = .ok (.iload_n 3, 1) := by decide +kernel
theorem d_TS_sign_50 : decode b_TS_sign 50 = .ok (.iload 4, 2) := by decide +kernel
theorem d_TS_sign_52 : decode b_TS_sign 52 = .ok (.invokevirtual 22, 3) := by decide +kernel
theorem d_TS_sign_55 : decode b_TS_sign 55 = .ok (.aload_n 0, 1) := by decide +kernel
theorem d_TS_sign_56 : decode b_TS_sign 56 = .ok (.dup, 1) := by decide +kernel
theorem d_TS_sign_57 : decode b_TS_sign 57 = .ok (.getfield 39, 3) := by decide +kernel
theorem d_TS_sign_60 : decode b_TS_sign 60 = .ok (.iconst 1, 1) := by decide +kernel
theorem d_TS_sign_61 : decode b_TS_sign 61 = .ok (.iadd, 1) := by decide +kernel
theorem d_TS_sign_62 : decode b_TS_sign 62 = .ok (.putfield 39, 3) := by decide +kernel
theorem d_TS_sign_65 : decode b_TS_sign 65 = .ok (.iload 5, 2) := by decide +kernel
theorem d_TS_sign_67 : decode b_TS_sign 67 = .ok (.ireturn, 1) := by decide +kernel
theorem d_TS_alter_0 : decode b_TS_alter 0 = .ok (.aload_n 0, 1) := by decide +kernel
theorem d_TS_alter_1 : decode b_TS_alter 1 = .ok (.iload_n 1, 1) := by decide +kernel
theorem d_TS_alter_2 : decode b_TS_alter 2 = .ok (.iload_n 2, 1) := by decide +kernel
theorem d_TS_alter_3 : decode b_TS_alter 3 = .ok (.invokevirtual 75, 3) := by decide +kernel
theorem d_TS_alter_6 : decode b_TS_alter 6 = .ok (.ifCond .ne (5), 3) := by decide +kernel
theorem d_TS_alter_9 : decode b_TS_alter 9 = .ok (.iconst 0, 1) := by decide +kernel
theorem d_TS_alter_10 : decode b_TS_alter 10 = .ok (.ireturn, 1) := by decide +kernel
theorem d_TS_alter_11 : decode b_TS_alter 11 = .ok (.aload_n 0, 1) := by decide +kernel
theorem d_TS_alter_12 : decode b_TS_alter 12 = .ok (.getfield 35, 3) := by decide +kernel
theorem d_TS_alter_15 : decode b_TS_alter 15 = .ok (.iload_n 1, 1) := by decide +kernel
theorem d_TS_alter_16 : decode b_TS_alter 16 = .ok (.invokestatic 71, 3) := by decide +kernel
theorem d_TS_alter_19 : decode b_TS_alter 19 = .ok (.iload_n 2, 1) := by decide +kernel
theorem d_TS_alter_20 : decode b_TS_alter 20 = .ok (.iadd, 1) := by decide +kernel
theorem d_TS_alter_21 : decode b_TS_alter 21 = .ok (.iload_n 3, 1) := by decide +kernel
theorem d_TS_alter_22 : decode b_TS_alter 22 = .ok (.iastore, 1) := by decide +kernel
theorem d_TS_alter_23 : decode b_TS_alter 23 = .ok (.iconst 1, 1) := by decide +kernel
theorem d_TS_alter_24 : decode b_TS_alter 24 = .ok (.ireturn, 1) := by decide +kernel
theorem d_TS_word_0 : decode b_TS_word 0 = .ok (.aload_n 0, 1) := by decide +kernel
theorem d_TS_word_1 : decode b_TS_word 1 = .ok (.iload_n 1, 1) := by decide +kernel
theorem d_TS_word_2 : decode b_TS_word 2 = .ok (.iload_n 2, 1) := by decide +kernel
theorem d_TS_word_3 : decode b_TS_word 3 = .ok (.invokevirtual 75, 3) := by decide +kernel
theorem d_TS_word_6 : decode b_TS_word 6 = .ok (.ifCond .eq (17), 3) := by decide +kernel
theorem d_TS_word_9 : decode b_TS_word 9 = .ok (.aload_n 0, 1) := by decide +kernel
theorem d_TS_word_10 : decode b_TS_word 10 = .ok (.getfield 35, 3) := by decide +kernel
theorem d_TS_word_13 : decode b_TS_word 13 = .ok (.iload_n 1, 1) := by decide +kernel
theorem d_TS_word_14 : decode b_TS_word 14 = .ok (.invokestatic 71, 3) := by decide +kernel
theorem d_TS_word_17 : decode b_TS_word 17 = .ok (.iload_n 2, 1) := by decide +kernel
theorem d_TS_word_18 : decode b_TS_word 18 = .ok (.iadd, 1) := by decide +kernel
theorem d_TS_word_19 : decode b_TS_word 19 = .ok (.iaload, 1) := by decide +kernel
theorem d_TS_word_20 : decode b_TS_word 20 = .ok (.goto (4), 3) := by decide +kernel
theorem d_TS_word_23 : decode b_TS_word 23 = .ok (.iconst 0, 1) := by decide +kernel
theorem d_TS_word_24 : decode b_TS_word 24 = .ok (.ireturn, 1) := by decide +kernel
theorem d_TS_fault_0 : decode b_TS_fault 0 = .ok (.aload_n 0, 1) := by decide +kernel
theorem d_TS_fault_1 : decode b_TS_fault 1 = .ok (.iload_n 1, 1) := by decide +kernel
theorem d_TS_fault_2 : decode b_TS_fault 2 = .ok (.invokevirtual 79, 3) := by decide +kernel
theorem d_TS_fault_5 : decode b_TS_fault 5 = .ok (.ifCond .ne (5), 3) := by decide +kernel
theorem d_TS_fault_8 : decode b_TS_fault 8 = .ok (.iconst (-1), 1) := by decide +kernel
theorem d_TS_fault_9 : decode b_TS_fault 9 = .ok (.ireturn, 1) := by decide +kernel
theorem d_TS_fault_10 : decode b_TS_fault 10 = .ok (.aload_n 0, 1) := by decide +kernel
theorem d_TS_fault_11 : decode b_TS_fault 11 = .ok (.getfield 35, 3) := by decide +kernel
theorem d_TS_fault_14 : decode b_TS_fault 14 = .ok (.iload_n 1, 1) := by decide +kernel
theorem d_TS_fault_15 : decode b_TS_fault 15 = .ok (.invokestatic 71, 3) := by decide +kernel
theorem d_TS_fault_18 : decode b_TS_fault 18 = .ok (.aload_n 0, 1) := by decide +kernel
theorem d_TS_fault_19 : decode b_TS_fault 19 = .ok (.getfield 14, 3) := by decide +kernel
theorem d_TS_fault_22 : decode b_TS_fault 22 = .ok (.invokevirtual 59, 3) := by decide +kernel
theorem d_TS_fault_25 : decode b_TS_fault 25 = .ok (.invokestatic 82, 3) := by decide +kernel
theorem d_TS_fault_28 : decode b_TS_fault 28 = .ok (.ireturn, 1) := by decide +kernel
theorem d_TS_cut_0 : decode b_TS_cut 0 = .ok (.iload_n 1, 1) := by decide +kernel
theorem d_TS_cut_1 : decode b_TS_cut 1 = .ok (.iconst (-1), 1) := by decide +kernel
theorem d_TS_cut_2 : decode b_TS_cut 2 = .ok (.if_icmp .ge (5), 3) := by decide +kernel
theorem d_TS_cut_5 : decode b_TS_cut 5 = .ok (.iconst 0, 1) := by decide +kernel
theorem d_TS_cut_6 : decode b_TS_cut 6 = .ok (.ireturn, 1) := by decide +kernel
theorem d_TS_cut_7 : decode b_TS_cut 7 = .ok (.aload_n 0, 1) := by decide +kernel
theorem d_TS_cut_8 : decode b_TS_cut 8 = .ok (.getfield 31, 3) := by decide +kernel
theorem d_TS_cut_11 : decode b_TS_cut 11 = .ok (.iload_n 1, 1) := by decide +kernel
theorem d_TS_cut_12 : decode b_TS_cut 12 = .ok (.putfield 86, 3) := by decide +kernel
theorem d_TS_cut_15 : decode b_TS_cut 15 = .ok (.iconst 1, 1) := by decide +kernel
theorem d_TS_cut_16 : decode b_TS_cut 16 = .ok (.ireturn, 1) := by decide +kernel
theorem d_TS_update_0 : decode b_TS_update 0 = .ok (.aload_n 0, 1) := by decide +kernel
theorem d_TS_update_1 : decode b_TS_update 1 = .ok (.iload_n 1, 1) := by decide +kernel
theorem d_TS_update_2 : decode b_TS_update 2 = .ok (.invokevirtual 79, 3) := by decide +kernel
theorem d_TS_update_5 : decode b_TS_update 5 = .ok (.ifCond .eq (18), 3) := by decide +kernel
theorem d_TS_update_8 : decode b_TS_update 8 = .ok (.aload_n 0, 1) := by decide +kernel
theorem d_TS_update_9 : decode b_TS_update 9 = .ok (.getfield 46, 3) := by decide +kernel
theorem d_TS_update_12 : decode b_TS_update 12 = .ok (.iconst (-1), 1) := by decide +kernel
theorem d_TS_update_13 : decode b_TS_update 13 = .ok (.if_icmp .eq (10), 3) := by decide +kernel
theorem d_TS_update_16 : decode b_TS_update 16 = .ok (.aload_n 0, 1) := by decide +kernel
theorem d_TS_update_17 : decode b_TS_update 17 = .ok (.getfield 49, 3) := by decide +kernel
theorem d_TS_update_20 : decode b_TS_update 20 = .ok (.ifCond .eq (6), 3) := by decide +kernel
theorem d_TS_update_23 : decode b_TS_update 23 = .ok (.bipush (-2), 2) := by decide +kernel
theorem d_TS_update_25 : decode b_TS_update 25 = .ok (.ireturn, 1) := by decide +kernel
theorem d_TS_update_26 : decode b_TS_update 26 = .ok (.aload_n 0, 1) := by decide +kernel
theorem d_TS_update_27 : decode b_TS_update 27 = .ok (.getfield 46, 3) := by decide +kernel
theorem d_TS_update_30 : decode b_TS_update 30 = .ok (.iconst 2, 1) := by decide +kernel
theorem d_TS_update_31 : decode b_TS_update 31 = .ok (.if_icmp .ne (16), 3) := by decide +kernel
theorem d_TS_update_34 : decode b_TS_update 34 = .ok (.aload_n 0, 1) := by decide +kernel
theorem d_TS_update_35 : decode b_TS_update 35 = .ok (.getfield 31, 3) := by decide +kernel
theorem d_TS_update_38 : decode b_TS_update 38 = .ok (.invokevirtual 89, 3) := by decide +kernel
theorem d_TS_update_41 : decode b_TS_update 41 = .ok (.invokestatic 92, 3) := by decide +kernel
theorem d_TS_update_44 : decode b_TS_update 44 = .ok (.goto (7), 3) := by decide +kernel
theorem d_TS_update_47 : decode b_TS_update 47 = .ok (.aload_n 0, 1) := by decide +kernel
theorem d_TS_update_48 : decode b_TS_update 48 = .ok (.getfield 46, 3) := by decide +kernel
theorem d_TS_update_51 : decode b_TS_update 51 = .ok (.istore_n 2, 1) := by decide +kernel
theorem d_TS_update_52 : decode b_TS_update 52 = .ok (.aload_n 0, 1) := by decide +kernel
theorem d_TS_update_53 : decode b_TS_update 53 = .ok (.iconst 1, 1) := by decide +kernel
theorem d_TS_update_54 : decode b_TS_update 54 = .ok (.iload_n 2, 1) := by decide +kernel
theorem d_TS_update_55 : decode b_TS_update 55 = .ok (.isub, 1) := by decide +kernel
theorem d_TS_update_56 : decode b_TS_update 56 = .ok (.iload_n 1, 1) := by decide +kernel
theorem d_TS_update_57 : decode b_TS_update 57 = .ok (.invokestatic 71, 3) := by decide +kernel
theorem d_TS_update_60 : decode b_TS_update 60 = .ok (.invokevirtual 97, 3) := by decide +kernel
theorem d_TS_update_63 : decode b_TS_update 63 = .ok (.ifCond .eq (7), 3) := by decide +kernel
theorem d_TS_update_66 : decode b_TS_update 66 = .ok (.iconst 0, 1) := by decide +kernel
theorem d_TS_update_67 : decode b_TS_update 67 = .ok (.goto (7), 3) := by decide +kernel
theorem d_TS_update_70 : decode b_TS_update 70 = .ok (.aload_n 0, 1) := by decide +kernel
theorem d_TS_update_71 : decode b_TS_update 71 = .ok (.invokevirtual 100, 3) := by decide +kernel
theorem d_TS_update_74 : decode b_TS_update 74 = .ok (.ireturn, 1) := by decide +kernel
theorem d_TS_boot_0 : decode b_TS_boot 0 = .ok (.aload_n 0, 1) := by decide +kernel
theorem d_TS_boot_1 : decode b_TS_boot 1 = .ok (.invokevirtual 103, 3) := by decide +kernel
theorem d_TS_boot_4 : decode b_TS_boot 4 = .ok (.aload_n 0, 1) := by decide +kernel
theorem d_TS_boot_5 : decode b_TS_boot 5 = .ok (.getfield 31, 3) := by decide +kernel
theorem d_TS_boot_8 : decode b_TS_boot 8 = .ok (.invokevirtual 89, 3) := by decide +kernel
theorem d_TS_boot_11 : decode b_TS_boot 11 = .ok (.istore_n 1, 1) := by decide +kernel
theorem d_TS_boot_12 : decode b_TS_boot 12 = .ok (.iload_n 1, 1) := by decide +kernel
theorem d_TS_boot_13 : decode b_TS_boot 13 = .ok (.invokestatic 106, 3) := by decide +kernel
theorem d_TS_boot_16 : decode b_TS_boot 16 = .ok (.istore_n 2, 1) := by decide +kernel
theorem d_TS_boot_17 : decode b_TS_boot 17 = .ok (.iload_n 2, 1) := by decide +kernel
theorem d_TS_boot_18 : decode b_TS_boot 18 = .ok (.iconst (-1), 1) := by decide +kernel
theorem d_TS_boot_19 : decode b_TS_boot 19 = .ok (.if_icmp .eq (44), 3) := by decide +kernel
theorem d_TS_boot_22 : decode b_TS_boot 22 = .ok (.aload_n 0, 1) := by decide +kernel
theorem d_TS_boot_23 : decode b_TS_boot 23 = .ok (.getfield 31, 3) := by decide +kernel
theorem d_TS_boot_26 : decode b_TS_boot 26 = .ok (.iload_n 1, 1) := by decide +kernel
theorem d_TS_boot_27 : decode b_TS_boot 27 = .ok (.iload_n 2, 1) := by decide +kernel
theorem d_TS_boot_28 : decode b_TS_boot 28 = .ok (.iconst 1, 1) := by decide +kernel
theorem d_TS_boot_29 : decode b_TS_boot 29 = .ok (.invokestatic 109, 3) := by decide +kernel
theorem d_TS_boot_32 : decode b_TS_boot 32 = .ok (.invokevirtual 113, 3) := by decide +kernel
theorem d_TS_boot_35 : decode b_TS_boot 35 = .ok (.ifCond .ne (8), 3) := by decide +kernel
theorem d_TS_boot_38 : decode b_TS_boot 38 = .ok (.aload_n 0, 1) := by decide +kernel
theorem d_TS_boot_39 : decode b_TS_boot 39 = .ok (.invokevirtual 100, 3) := by decide +kernel
theorem d_TS_boot_42 : decode b_TS_boot 42 = .ok (.ireturn, 1) := by decide +kernel
theorem d_TS_boot_43 : decode b_TS_boot 43 = .ok (.aload_n 0, 1) := by decide +kernel
theorem d_TS_boot_44 : decode b_TS_boot 44 = .ok (.iload_n 2, 1) := by decide +kernel
theorem d_TS_boot_45 : decode b_TS_boot 45 = .ok (.invokevirtual 116, 3) := by decide +kernel
theorem d_TS_boot_48 : decode b_TS_boot 48 = .ok (.ifCond .eq (15), 3) := by decide +kernel
theorem d_TS_boot_51 : decode b_TS_boot 51 = .ok (.aload_n 0, 1) := by decide +kernel
theorem d_TS_boot_52 : decode b_TS_boot 52 = .ok (.iload_n 2, 1) := by decide +kernel
theorem d_TS_boot_53 : decode b_TS_boot 53 = .ok (.putfield 46, 3) := by decide +kernel
theorem d_TS_boot_56 : decode b_TS_boot 56 = .ok (.aload_n 0, 1) := by decide +kernel
theorem d_TS_boot_57 : decode b_TS_boot 57 = .ok (.iconst 1, 1) := by decide +kernel
theorem d_TS_boot_58 : decode b_TS_boot 58 = .ok (.putfield 49, 3) := by decide +kernel
theorem d_TS_boot_61 : decode b_TS_boot 61 = .ok (.iload_n 2, 1) := by decide +kernel
theorem d_TS_boot_62 : decode b_TS_boot 62 = .ok (.ireturn, 1) := by decide +kernel
theorem d_TS_boot_63 : decode b_TS_boot 63 = .ok (.aload_n 0, 1) := by decide +kernel
theorem d_TS_boot_64 : decode b_TS_boot 64 = .ok (.invokevirtual 119, 3) := by decide +kernel
theorem d_TS_boot_67 : decode b_TS_boot 67 = .ok (.ireturn, 1) := by decide +kernel
theorem d_TS_confirm_0 : decode b_TS_confirm 0 = .ok (.aload_n 0, 1) := by decide +kernel
theorem d_TS_confirm_1 : decode b_TS_confirm 1 = .ok (.getfield 49, 3) := by decide +kernel
theorem d_TS_confirm_4 : decode b_TS_confirm 4 = .ok (.ifCond .ne (6), 3) := by decide +kernel
theorem d_TS_confirm_7 : decode b_TS_confirm 7 = .ok (.bipush (-2), 2) := by decide +kernel
theorem d_TS_confirm_9 : decode b_TS_confirm 9 = .ok (.ireturn, 1) := by decide +kernel
theorem d_TS_confirm_10 : decode b_TS_confirm 10 = .ok (.aload_n 0, 1) := by decide +kernel
theorem d_TS_confirm_11 : decode b_TS_confirm 11 = .ok (.getfield 31, 3) := by decide +kernel
theorem d_TS_confirm_14 : decode b_TS_confirm 14 = .ok (.invokevirtual 89, 3) := by decide +kernel
theorem d_TS_confirm_17 : decode b_TS_confirm 17 = .ok (.aload_n 0, 1) := by decide +kernel
theorem d_TS_confirm_18 : decode b_TS_confirm 18 = .ok (.getfield 46, 3) := by decide +kernel
theorem d_TS_confirm_21 : decode b_TS_confirm 21 = .ok (.iconst 3, 1) := by decide +kernel
theorem d_TS_confirm_22 : decode b_TS_confirm 22 = .ok (.invokestatic 109, 3) := by decide +kernel
theorem d_TS_confirm_25 : decode b_TS_confirm 25 = .ok (.istore_n 1, 1) := by decide +kernel
theorem d_TS_confirm_26 : decode b_TS_confirm 26 = .ok (.aload_n 0, 1) := by decide +kernel
theorem d_TS_confirm_27 : decode b_TS_confirm 27 = .ok (.getfield 31, 3) := by decide +kernel
theorem d_TS_confirm_30 : decode b_TS_confirm 30 = .ok (.iload_n 1, 1) := by decide +kernel
theorem d_TS_confirm_31 : decode b_TS_confirm 31 = .ok (.aload_n 0, 1) := by decide +kernel
theorem d_TS_confirm_32 : decode b_TS_confirm 32 = .ok (.getfield 46, 3) := by decide +kernel
theorem d_TS_confirm_35 : decode b_TS_confirm 35 = .ok (.invokestatic 122, 3) := by decide +kernel
theorem d_TS_confirm_38 : decode b_TS_confirm 38 = .ok (.invokevirtual 113, 3) := by decide +kernel
theorem d_TS_confirm_41 : decode b_TS_confirm 41 = .ok (.ifCond .eq (28), 3) := by decide +kernel
theorem d_TS_confirm_44 : decode b_TS_confirm 44 = .ok (.aload_n 0, 1) := by decide +kernel
theorem d_TS_confirm_45 : decode b_TS_confirm 45 = .ok (.getfield 31, 3) := by decide +kernel
theorem d_TS_confirm_48 : decode b_TS_confirm 48 = .ok (.aload_n 0, 1) := by decide +kernel
theorem d_TS_confirm_49 : decode b_TS_confirm 49 = .ok (.getfield 31, 3) := by decide +kernel
theorem d_TS_confirm_52 : decode b_TS_confirm 52 = .ok (.aload_n 0, 1) := by decide +kernel
theorem d_TS_confirm_53 : decode b_TS_confirm 53 = .ok (.getfield 46, 3) := by decide +kernel
theorem d_TS_confirm_56 : decode b_TS_confirm 56 = .ok (.invokevirtual 126, 3) := by decide +kernel
theorem d_TS_confirm_59 : decode b_TS_confirm 59 = .ok (.invokevirtual 129, 3) := by decide +kernel
theorem d_TS_confirm_62 : decode b_TS_confirm 62 = .ok (.ifCond .eq (7), 3) := by decide +kernel
theorem d_TS_confirm_65 : decode b_TS_confirm 65 = .ok (.iconst 1, 1) := by decide +kernel
theorem d_TS_confirm_66 : decode b_TS_confirm 66 = .ok (.goto (4), 3) := by decide +kernel
theorem d_TS_confirm_69 : decode b_TS_confirm 69 = .ok (.iconst 0, 1) := by decide +kernel
theorem d_TS_confirm_70 : decode b_TS_confirm 70 = .ok (.istore_n 2, 1) := by decide +kernel
theorem d_TS_confirm_71 : decode b_TS_confirm 71 = .ok (.iload_n 2, 1) := by decide +kernel
theorem d_TS_confirm_72 : decode b_TS_confirm 72 = .ok (.ifCond .ne (8), 3) := by decide +kernel
theorem d_TS_confirm_75 : decode b_TS_confirm 75 = .ok (.aload_n 0, 1) := by decide +kernel
theorem d_TS_confirm_76 : decode b_TS_confirm 76 = .ok (.invokevirtual 100, 3) := by decide +kernel
theorem d_TS_confirm_79 : decode b_TS_confirm 79 = .ok (.ireturn, 1) := by decide +kernel
theorem d_TS_confirm_80 : decode b_TS_confirm 80 = .ok (.aload_n 0, 1) := by decide +kernel
theorem d_TS_confirm_81 : decode b_TS_confirm 81 = .ok (.iconst 0, 1) := by decide +kernel
theorem d_TS_confirm_82 : decode b_TS_confirm 82 = .ok (.putfield 49, 3) := by decide +kernel
theorem d_TS_confirm_85 : decode b_TS_confirm 85 = .ok (.iconst 0, 1) := by decide +kernel
theorem d_TS_confirm_86 : decode b_TS_confirm 86 = .ok (.ireturn, 1) := by decide +kernel
theorem d_TS_running_0 : decode b_TS_running 0 = .ok (.aload_n 0, 1) := by decide +kernel
theorem d_TS_running_1 : decode b_TS_running 1 = .ok (.getfield 46, 3) := by decide +kernel
theorem d_TS_running_4 : decode b_TS_running 4 = .ok (.ireturn, 1) := by decide +kernel
theorem d_TS_onTrial_0 : decode b_TS_onTrial 0 = .ok (.aload_n 0, 1) := by decide +kernel
theorem d_TS_onTrial_1 : decode b_TS_onTrial 1 = .ok (.getfield 49, 3) := by decide +kernel
theorem d_TS_onTrial_4 : decode b_TS_onTrial 4 = .ok (.ireturn, 1) := by decide +kernel
theorem d_TS_counter_0 : decode b_TS_counter 0 = .ok (.aload_n 0, 1) := by decide +kernel
theorem d_TS_counter_1 : decode b_TS_counter 1 = .ok (.getfield 31, 3) := by decide +kernel
theorem d_TS_counter_4 : decode b_TS_counter 4 = .ok (.getfield 132, 3) := by decide +kernel
theorem d_TS_counter_7 : decode b_TS_counter 7 = .ok (.ireturn, 1) := by decide +kernel
theorem d_TS_state_0 : decode b_TS_state 0 = .ok (.iload_n 1, 1) := by decide +kernel
theorem d_TS_state_1 : decode b_TS_state 1 = .ok (.ifCond .eq (8), 3) := by decide +kernel
theorem d_TS_state_4 : decode b_TS_state 4 = .ok (.iload_n 1, 1) := by decide +kernel
theorem d_TS_state_5 : decode b_TS_state 5 = .ok (.iconst 1, 1) := by decide +kernel
theorem d_TS_state_6 : decode b_TS_state 6 = .ok (.if_icmp .ne (17), 3) := by decide +kernel
theorem d_TS_state_9 : decode b_TS_state 9 = .ok (.aload_n 0, 1) := by decide +kernel
theorem d_TS_state_10 : decode b_TS_state 10 = .ok (.getfield 31, 3) := by decide +kernel
theorem d_TS_state_13 : decode b_TS_state 13 = .ok (.invokevirtual 89, 3) := by decide +kernel
theorem d_TS_state_16 : decode b_TS_state 16 = .ok (.iload_n 1, 1) := by decide +kernel
theorem d_TS_state_17 : decode b_TS_state 17 = .ok (.invokestatic 135, 3) := by decide +kernel
theorem d_TS_state_20 : decode b_TS_state 20 = .ok (.goto (4), 3) := by decide +kernel
theorem d_TS_state_23 : decode b_TS_state 23 = .ok (.iconst (-1), 1) := by decide +kernel
theorem d_TS_state_24 : decode b_TS_state 24 = .ok (.ireturn, 1) := by decide +kernel
theorem d_TS_home_0 : decode b_TS_home 0 = .ok (.aload_n 0, 1) := by decide +kernel
theorem d_TS_home_1 : decode b_TS_home 1 = .ok (.getfield 31, 3) := by decide +kernel
theorem d_TS_home_4 : decode b_TS_home 4 = .ok (.invokevirtual 89, 3) := by decide +kernel
theorem d_TS_home_7 : decode b_TS_home 7 = .ok (.invokestatic 92, 3) := by decide +kernel
theorem d_TS_home_10 : decode b_TS_home 10 = .ok (.ireturn, 1) := by decide +kernel
theorem d_TS_peek_0 : decode b_TS_peek 0 = .ok (.iload_n 1, 1) := by decide +kernel
theorem d_TS_peek_1 : decode b_TS_peek 1 = .ok (.invokestatic 138, 3) := by decide +kernel
theorem d_TS_peek_4 : decode b_TS_peek 4 = .ok (.ifCond .eq (15), 3) := by decide +kernel
theorem d_TS_peek_7 : decode b_TS_peek 7 = .ok (.aload_n 0, 1) := by decide +kernel
theorem d_TS_peek_8 : decode b_TS_peek 8 = .ok (.getfield 31, 3) := by decide +kernel
theorem d_TS_peek_11 : decode b_TS_peek 11 = .ok (.getfield 141, 3) := by decide +kernel
theorem d_TS_peek_14 : decode b_TS_peek 14 = .ok (.iload_n 1, 1) := by decide +kernel
theorem d_TS_peek_15 : decode b_TS_peek 15 = .ok (.iaload, 1) := by decide +kernel
theorem d_TS_peek_16 : decode b_TS_peek 16 = .ok (.goto (4), 3) := by decide +kernel
theorem d_TS_peek_19 : decode b_TS_peek 19 = .ok (.iconst 0, 1) := by decide +kernel
theorem d_TS_peek_20 : decode b_TS_peek 20 = .ok (.ireturn, 1) := by decide +kernel
theorem d_TS_poke_0 : decode b_TS_poke 0 = .ok (.iload_n 1, 1) := by decide +kernel
theorem d_TS_poke_1 : decode b_TS_poke 1 = .ok (.invokestatic 138, 3) := by decide +kernel
theorem d_TS_poke_4 : decode b_TS_poke 4 = .ok (.ifCond .ne (5), 3) := by decide +kernel
theorem d_TS_poke_7 : decode b_TS_poke 7 = .ok (.iconst 0, 1) := by decide +kernel
theorem d_TS_poke_8 : decode b_TS_poke 8 = .ok (.ireturn, 1) := by decide +kernel
theorem d_TS_poke_9 : decode b_TS_poke 9 = .ok (.aload_n 0, 1) := by decide +kernel
theorem d_TS_poke_10 : decode b_TS_poke 10 = .ok (.getfield 31, 3) := by decide +kernel
theorem d_TS_poke_13 : decode b_TS_poke 13 = .ok (.getfield 141, 3) := by decide +kernel
theorem d_TS_poke_16 : decode b_TS_poke 16 = .ok (.iload_n 1, 1) := by decide +kernel
theorem d_TS_poke_17 : decode b_TS_poke 17 = .ok (.iload_n 2, 1) := by decide +kernel
theorem d_TS_poke_18 : decode b_TS_poke 18 = .ok (.iastore, 1) := by decide +kernel
theorem d_TS_poke_19 : decode b_TS_poke 19 = .ok (.iconst 1, 1) := by decide +kernel
theorem d_TS_poke_20 : decode b_TS_poke 20 = .ok (.ireturn, 1) := by decide +kernel
theorem d_TS_register_0 : decode b_TS_register 0 = .ok (.aload_n 0, 1) := by decide +kernel
theorem d_TS_register_1 : decode b_TS_register 1 = .ok (.getfield 56, 3) := by decide +kernel
theorem d_TS_register_4 : decode b_TS_register 4 = .ok (.ireturn, 1) := by decide +kernel
theorem d_TS_log_0 : decode b_TS_log 0 = .ok (.iload_n 1, 1) := by decide +kernel
theorem d_TS_log_1 : decode b_TS_log 1 = .ok (.iconst (-1), 1) := by decide +kernel
theorem d_TS_log_2 : decode b_TS_log 2 = .ok (.if_icmp .ne (8), 3) := by decide +kernel
theorem d_TS_log_5 : decode b_TS_log 5 = .ok (.aload_n 0, 1) := by decide +kernel
theorem d_TS_log_6 : decode b_TS_log 6 = .ok (.getfield 53, 3) := by decide +kernel
theorem d_TS_log_9 : decode b_TS_log 9 = .ok (.ireturn, 1) := by decide +kernel
theorem d_TS_log_10 : decode b_TS_log 10 = .ok (.iload_n 1, 1) := by decide +kernel
theorem d_TS_log_11 : decode b_TS_log 11 = .ok (.ifCond .lt (20), 3) := by decide +kernel
theorem d_TS_log_14 : decode b_TS_log 14 = .ok (.iload_n 1, 1) := by decide +kernel
theorem d_TS_log_15 : decode b_TS_log 15 = .ok (.aload_n 0, 1) := by decide +kernel
theorem d_TS_log_16 : decode b_TS_log 16 = .ok (.getfield 53, 3) := by decide +kernel
theorem d_TS_log_19 : decode b_TS_log 19 = .ok (.if_icmp .ge (12), 3) := by decide +kernel
theorem d_TS_log_22 : decode b_TS_log 22 = .ok (.aload_n 0, 1) := by decide +kernel
theorem d_TS_log_23 : decode b_TS_log 23 = .ok (.getfield 43, 3) := by decide +kernel
theorem d_TS_log_26 : decode b_TS_log 26 = .ok (.iload_n 1, 1) := by decide +kernel
theorem d_TS_log_27 : decode b_TS_log 27 = .ok (.iaload, 1) := by decide +kernel
theorem d_TS_log_28 : decode b_TS_log 28 = .ok (.goto (4), 3) := by decide +kernel
theorem d_TS_log_31 : decode b_TS_log 31 = .ok (.iconst 0, 1) := by decide +kernel
theorem d_TS_log_32 : decode b_TS_log 32 = .ok (.ireturn, 1) := by decide +kernel
theorem d_TS_writes_0 : decode b_TS_writes 0 = .ok (.aload_n 0, 1) := by decide +kernel
theorem d_TS_writes_1 : decode b_TS_writes 1 = .ok (.getfield 31, 3) := by decide +kernel
theorem d_TS_writes_4 : decode b_TS_writes 4 = .ok (.getfield 144, 3) := by decide +kernel
theorem d_TS_writes_7 : decode b_TS_writes 7 = .ok (.ireturn, 1) := by decide +kernel
theorem d_TS_isPackage_0 : decode b_TS_isPackage 0 = .ok (.iload_n 1, 1) := by decide +kernel
theorem d_TS_isPackage_1 : decode b_TS_isPackage 1 = .ok (.ifCond .lt (15), 3) := by decide +kernel
theorem d_TS_isPackage_4 : decode b_TS_isPackage 4 = .ok (.iload_n 1, 1) := by decide +kernel
theorem d_TS_isPackage_5 : decode b_TS_isPackage 5 = .ok (.aload_n 0, 1) := by decide +kernel
theorem d_TS_isPackage_6 : decode b_TS_isPackage 6 = .ok (.getfield 39, 3) := by decide +kernel
theorem d_TS_isPackage_9 : decode b_TS_isPackage 9 = .ok (.if_icmp .ge (7), 3) := by decide +kernel
theorem d_TS_isPackage_12 : decode b_TS_isPackage 12 = .ok (.iconst 1, 1) := by decide +kernel
theorem d_TS_isPackage_13 : decode b_TS_isPackage 13 = .ok (.goto (4), 3) := by decide +kernel
theorem d_TS_isPackage_16 : decode b_TS_isPackage 16 = .ok (.iconst 0, 1) := by decide +kernel
theorem d_TS_isPackage_17 : decode b_TS_isPackage 17 = .ok (.ireturn, 1) := by decide +kernel
theorem d_TS_isPackageWord_0 : decode b_TS_isPackageWord 0 = .ok (.aload_n 0, 1) := by decide +kernel
theorem d_TS_isPackageWord_1 : decode b_TS_isPackageWord 1 = .ok (.iload_n 1, 1) := by decide +kernel
theorem d_TS_isPackageWord_2 : decode b_TS_isPackageWord 2 = .ok (.invokevirtual 79, 3) := by decide +kernel
theorem d_TS_isPackageWord_5 : decode b_TS_isPackageWord 5 = .ok (.ifCond .eq (17), 3) := by decide +kernel
theorem d_TS_isPackageWord_8 : decode b_TS_isPackageWord 8 = .ok (.iload_n 2, 1) := by decide +kernel
theorem d_TS_isPackageWord_9 : decode b_TS_isPackageWord 9 = .ok (.ifCond .lt (13), 3) := by decide +kernel
theorem d_TS_isPackageWord_12 : decode b_TS_isPackageWord 12 = .ok (.iload_n 2, 1) := by decide +kernel
theorem d_TS_isPackageWord_13 : decode b_TS_isPackageWord 13 = .ok (.bipush 17, 2) := by decide +kernel
theorem d_TS_isPackageWord_15 : decode b_TS_isPackageWord 15 = .ok (.if_icmp .ge (7), 3) := by decide +kernel
theorem d_TS_isPackageWord_18 : decode b_TS_isPackageWord 18 = .ok (.iconst 1, 1) := by decide +kernel
theorem d_TS_isPackageWord_19 : decode b_TS_isPackageWord 19 = .ok (.goto (4), 3) := by decide +kernel
theorem d_TS_isPackageWord_22 : decode b_TS_isPackageWord 22 = .ok (.iconst 0, 1) := by decide +kernel
theorem d_TS_isPackageWord_23 : decode b_TS_isPackageWord 23 = .ok (.ireturn, 1) := by decide +kernel
theorem d_TS_packagePlace_0 : decode b_TS_packagePlace 0 = .ok (.iload_n 0, 1) := by decide +kernel
theorem d_TS_packagePlace_1 : decode b_TS_packagePlace 1 = .ok (.bipush 17, 2) := by decide +kernel
theorem d_TS_packagePlace_3 : decode b_TS_packagePlace 3 = .ok (.imul, 1) := by decide +kernel
theorem d_TS_packagePlace_4 : decode b_TS_packagePlace 4 = .ok (.ireturn, 1) := by decide +kernel
theorem d_TS_stop_0 : decode b_TS_stop 0 = .ok (.aload_n 0, 1) := by decide +kernel
theorem d_TS_stop_1 : decode b_TS_stop 1 = .ok (.iconst (-1), 1) := by decide +kernel
theorem d_TS_stop_2 : decode b_TS_stop 2 = .ok (.putfield 46, 3) := by decide +kernel
theorem d_TS_stop_5 : decode b_TS_stop 5 = .ok (.aload_n 0, 1) := by decide +kernel
theorem d_TS_stop_6 : decode b_TS_stop 6 = .ok (.iconst 0, 1) := by decide +kernel
theorem d_TS_stop_7 : decode b_TS_stop 7 = .ok (.putfield 49, 3) := by decide +kernel
theorem d_TS_stop_10 : decode b_TS_stop 10 = .ok (.aload_n 0, 1) := by decide +kernel
theorem d_TS_stop_11 : decode b_TS_stop 11 = .ok (.invokevirtual 147, 3) := by decide +kernel
theorem d_TS_stop_14 : decode b_TS_stop 14 = .ok (.return_, 1) := by decide +kernel
theorem d_TS_powerLost_0 : decode b_TS_powerLost 0 = .ok (.aload_n 0, 1) := by decide +kernel
theorem d_TS_powerLost_1 : decode b_TS_powerLost 1 = .ok (.invokevirtual 103, 3) := by decide +kernel
theorem d_TS_powerLost_4 : decode b_TS_powerLost 4 = .ok (.iconst (-1), 1) := by decide +kernel
theorem d_TS_powerLost_5 : decode b_TS_powerLost 5 = .ok (.ireturn, 1) := by decide +kernel
theorem d_TS_forgetStages_0 : decode b_TS_forgetStages 0 = .ok (.aload_n 0, 1) := by decide +kernel
theorem d_TS_forgetStages_1 : decode b_TS_forgetStages 1 = .ok (.iconst 0, 1) := by decide +kernel
theorem d_TS_forgetStages_2 : decode b_TS_forgetStages 2 = .ok (.putfield 53, 3) := by decide +kernel
theorem d_TS_forgetStages_5 : decode b_TS_forgetStages 5 = .ok (.aload_n 0, 1) := by decide +kernel
theorem d_TS_forgetStages_6 : decode b_TS_forgetStages 6 = .ok (.iconst 0, 1) := by decide +kernel
theorem d_TS_forgetStages_7 : decode b_TS_forgetStages 7 = .ok (.putfield 56, 3) := by decide +kernel
theorem d_TS_forgetStages_10 : decode b_TS_forgetStages 10 = .ok (.return_, 1) := by decide +kernel
theorem d_TS_replace_0 : decode b_TS_replace 0 = .ok (.aload_n 0, 1) := by decide +kernel
theorem d_TS_replace_1 : decode b_TS_replace 1 = .ok (.getfield 31, 3) := by decide +kernel
theorem d_TS_replace_4 : decode b_TS_replace 4 = .ok (.invokevirtual 89, 3) := by decide +kernel
theorem d_TS_replace_7 : decode b_TS_replace 7 = .ok (.iload_n 1, 1) := by decide +kernel
theorem d_TS_replace_8 : decode b_TS_replace 8 = .ok (.iconst 0, 1) := by decide +kernel
theorem d_TS_replace_9 : decode b_TS_replace 9 = .ok (.invokestatic 109, 3) := by decide +kernel
theorem d_TS_replace_12 : decode b_TS_replace 12 = .ok (.istore_n 3, 1) := by decide +kernel
theorem d_TS_replace_13 : decode b_TS_replace 13 = .ok (.aload_n 0, 1) := by decide +kernel
theorem d_TS_replace_14 : decode b_TS_replace 14 = .ok (.getfield 31, 3) := by decide +kernel
theorem d_TS_replace_17 : decode b_TS_replace 17 = .ok (.iload_n 3, 1) := by decide +kernel
theorem d_TS_replace_18 : decode b_TS_replace 18 = .ok (.iconst 1, 1) := by decide +kernel
theorem d_TS_replace_19 : decode b_TS_replace 19 = .ok (.iload_n 1, 1) := by decide +kernel
theorem d_TS_replace_20 : decode b_TS_replace 20 = .ok (.isub, 1) := by decide +kernel
theorem d_TS_replace_21 : decode b_TS_replace 21 = .ok (.invokestatic 122, 3) := by decide +kernel
theorem d_TS_replace_24 : decode b_TS_replace 24 = .ok (.invokevirtual 113, 3) := by decide +kernel
theorem d_TS_replace_27 : decode b_TS_replace 27 = .ok (.ifCond .eq (45), 3) := by decide +kernel
theorem d_TS_replace_30 : decode b_TS_replace 30 = .ok (.aload_n 0, 1) := by decide +kernel
theorem d_TS_replace_31 : decode b_TS_replace 31 = .ok (.getfield 31, 3) := by decide +kernel
theorem d_TS_replace_34 : decode b_TS_replace 34 = .ok (.iload_n 1, 1) := by decide +kernel
theorem d_TS_replace_35 : decode b_TS_replace 35 = .ok (.aload_n 0, 1) := by decide +kernel
theorem d_TS_replace_36 : decode b_TS_replace 36 = .ok (.getfield 35, 3) := by decide +kernel
theorem d_TS_replace_39 : decode b_TS_replace 39 = .ok (.iload_n 2, 1) := by decide +kernel
theorem d_TS_replace_40 : decode b_TS_replace 40 = .ok (.invokevirtual 150, 3) := by decide +kernel
theorem d_TS_replace_43 : decode b_TS_replace 43 = .ok (.ifCond .eq (29), 3) := by decide +kernel
theorem d_TS_replace_46 : decode b_TS_replace 46 = .ok (.aload_n 0, 1) := by decide +kernel
theorem d_TS_replace_47 : decode b_TS_replace 47 = .ok (.getfield 31, 3) := by decide +kernel
theorem d_TS_replace_50 : decode b_TS_replace 50 = .ok (.aload_n 0, 1) := by decide +kernel
theorem d_TS_replace_51 : decode b_TS_replace 51 = .ok (.getfield 31, 3) := by decide +kernel
theorem d_TS_replace_54 : decode b_TS_replace 54 = .ok (.invokevirtual 89, 3) := by decide +kernel
theorem d_TS_replace_57 : decode b_TS_replace 57 = .ok (.iload_n 1, 1) := by decide +kernel
theorem d_TS_replace_58 : decode b_TS_replace 58 = .ok (.iconst 2, 1) := by decide +kernel
theorem d_TS_replace_59 : decode b_TS_replace 59 = .ok (.invokestatic 109, 3) := by decide +kernel
theorem d_TS_replace_62 : decode b_TS_replace 62 = .ok (.invokevirtual 113, 3) := by decide +kernel
theorem d_TS_replace_65 : decode b_TS_replace 65 = .ok (.ifCond .eq (7), 3) := by decide +kernel
theorem d_TS_replace_68 : decode b_TS_replace 68 = .ok (.iconst 1, 1) := by decide +kernel
theorem d_TS_replace_69 : decode b_TS_replace 69 = .ok (.goto (4), 3) := by decide +kernel
theorem d_TS_replace_72 : decode b_TS_replace 72 = .ok (.iconst 0, 1) := by decide +kernel
theorem d_TS_replace_73 : decode b_TS_replace 73 = .ok (.ireturn, 1) := by decide +kernel
theorem d_TS_startConfirmed_0 : decode b_TS_startConfirmed 0 = .ok (.aload_n 0, 1) := by decide +kernel
theorem d_TS_startConfirmed_1 : decode b_TS_startConfirmed 1 = .ok (.getfield 31, 3) := by decide +kernel
theorem d_TS_startConfirmed_4 : decode b_TS_startConfirmed 4 = .ok (.invokevirtual 89, 3) := by decide +kernel
theorem d_TS_startConfirmed_7 : decode b_TS_startConfirmed 7 = .ok (.invokestatic 92, 3) := by decide +kernel
theorem d_TS_startConfirmed_10 : decode b_TS_startConfirmed 10 = .ok (.istore_n 1, 1) := by decide +kernel
theorem d_TS_startConfirmed_11 : decode b_TS_startConfirmed 11 = .ok (.iconst (-1), 1) := by decide +kernel
theorem d_TS_startConfirmed_12 : decode b_TS_startConfirmed 12 = .ok (.istore_n 2, 1) := by decide +kernel
theorem d_TS_startConfirmed_13 : decode b_TS_startConfirmed 13 = .ok (.aload_n 0, 1) := by decide +kernel
theorem d_TS_startConfirmed_14 : decode b_TS_startConfirmed 14 = .ok (.iload_n 1, 1) := by decide +kernel
theorem d_TS_startConfirmed_15 : decode b_TS_startConfirmed 15 = .ok (.invokevirtual 154, 3) := by decide +kernel
theorem d_TS_startConfirmed_18 : decode b_TS_startConfirmed 18 = .ok (.ifCond .eq (16), 3) := by decide +kernel
theorem d_TS_startConfirmed_21 : decode b_TS_startConfirmed 21 = .ok (.aload_n 0, 1) := by decide +kernel
theorem d_TS_startConfirmed_22 : decode b_TS_startConfirmed 22 = .ok (.iload_n 1, 1) := by decide +kernel
theorem d_TS_startConfirmed_23 : decode b_TS_startConfirmed 23 = .ok (.invokevirtual 116, 3) := by decide +kernel
theorem d_TS_startConfirmed_26 : decode b_TS_startConfirmed 26 = .ok (.ifCond .eq (8), 3) := by decide +kernel
theorem d_TS_startConfirmed_29 : decode b_TS_startConfirmed 29 = .ok (.iload_n 1, 1) := by decide +kernel
theorem d_TS_startConfirmed_30 : decode b_TS_startConfirmed 30 = .ok (.istore_n 2, 1) := by decide +kernel
theorem d_TS_startConfirmed_31 : decode b_TS_startConfirmed 31 = .ok (.goto (27), 3) := by decide +kernel
theorem d_TS_startConfirmed_34 : decode b_TS_startConfirmed 34 = .ok (.aload_n 0, 1) := by decide +kernel
theorem d_TS_startConfirmed_35 : decode b_TS_startConfirmed 35 = .ok (.iconst 1, 1) := by decide +kernel
theorem d_TS_startConfirmed_36 : decode b_TS_startConfirmed 36 = .ok (.iload_n 1, 1) := by decide +kernel
theorem d_TS_startConfirmed_37 : decode b_TS_startConfirmed 37 = .ok (.isub, 1) := by decide +kernel
theorem d_TS_startConfirmed_38 : decode b_TS_startConfirmed 38 = .ok (.invokevirtual 154, 3) := by decide +kernel
theorem d_TS_startConfirmed_41 : decode b_TS_startConfirmed 41 = .ok (.ifCond .eq (17), 3) := by decide +kernel
theorem d_TS_startConfirmed_44 : decode b_TS_startConfirmed 44 = .ok (.aload_n 0, 1) := by decide +kernel
theorem d_TS_startConfirmed_45 : decode b_TS_startConfirmed 45 = .ok (.iconst 1, 1) := by decide +kernel
theorem d_TS_startConfirmed_46 : decode b_TS_startConfirmed 46 = .ok (.iload_n 1, 1) := by decide +kernel
theorem d_TS_startConfirmed_47 : decode b_TS_startConfirmed 47 = .ok (.isub, 1) := by decide +kernel
theorem d_TS_startConfirmed_48 : decode b_TS_startConfirmed 48 = .ok (.invokevirtual 116, 3) := by decide +kernel
theorem d_TS_startConfirmed_51 : decode b_TS_startConfirmed 51 = .ok (.ifCond .eq (7), 3) := by decide +kernel
theorem d_TS_startConfirmed_54 : decode b_TS_startConfirmed 54 = .ok (.iconst 1, 1) := by decide +kernel
theorem d_TS_startConfirmed_55 : decode b_TS_startConfirmed 55 = .ok (.iload_n 1, 1) := by decide +kernel
theorem d_TS_startConfirmed_56 : decode b_TS_startConfirmed 56 = .ok (.isub, 1) := by decide +kernel
theorem d_TS_startConfirmed_57 : decode b_TS_startConfirmed 57 = .ok (.istore_n 2, 1) := by decide +kernel
theorem d_TS_startConfirmed_58 : decode b_TS_startConfirmed 58 = .ok (.iload_n 2, 1) := by decide +kernel
theorem d_TS_startConfirmed_59 : decode b_TS_startConfirmed 59 = .ok (.iconst (-1), 1) := by decide +kernel
theorem d_TS_startConfirmed_60 : decode b_TS_startConfirmed 60 = .ok (.if_icmp .ne (14), 3) := by decide +kernel
theorem d_TS_startConfirmed_63 : decode b_TS_startConfirmed 63 = .ok (.aload_n 0, 1) := by decide +kernel
theorem d_TS_startConfirmed_64 : decode b_TS_startConfirmed 64 = .ok (.invokevirtual 147, 3) := by decide +kernel
theorem d_TS_startConfirmed_67 : decode b_TS_startConfirmed 67 = .ok (.aload_n 0, 1) := by decide +kernel
theorem d_TS_startConfirmed_68 : decode b_TS_startConfirmed 68 = .ok (.iconst 2, 1) := by decide +kernel
theorem d_TS_startConfirmed_69 : decode b_TS_startConfirmed 69 = .ok (.putfield 46, 3) := by decide +kernel
theorem d_TS_startConfirmed_72 : decode b_TS_startConfirmed 72 = .ok (.iconst 2, 1) := by decide +kernel
theorem d_TS_startConfirmed_73 : decode b_TS_startConfirmed 73 = .ok (.ireturn, 1) := by decide +kernel
theorem d_TS_startConfirmed_74 : decode b_TS_startConfirmed 74 = .ok (.aload_n 0, 1) := by decide +kernel
theorem d_TS_startConfirmed_75 : decode b_TS_startConfirmed 75 = .ok (.getfield 31, 3) := by decide +kernel
theorem d_TS_startConfirmed_78 : decode b_TS_startConfirmed 78 = .ok (.aload_n 0, 1) := by decide +kernel
theorem d_TS_startConfirmed_79 : decode b_TS_startConfirmed 79 = .ok (.getfield 31, 3) := by decide +kernel
theorem d_TS_startConfirmed_82 : decode b_TS_startConfirmed 82 = .ok (.iload_n 2, 1) := by decide +kernel
theorem d_TS_startConfirmed_83 : decode b_TS_startConfirmed 83 = .ok (.invokevirtual 126, 3) := by decide +kernel
theorem d_TS_startConfirmed_86 : decode b_TS_startConfirmed 86 = .ok (.invokevirtual 129, 3) := by decide +kernel
theorem d_TS_startConfirmed_89 : decode b_TS_startConfirmed 89 = .ok (.ifCond .ne (8), 3) := by decide +kernel
theorem d_TS_startConfirmed_92 : decode b_TS_startConfirmed 92 = .ok (.aload_n 0, 1) := by decide +kernel
theorem d_TS_startConfirmed_93 : decode b_TS_startConfirmed 93 = .ok (.invokevirtual 100, 3) := by decide +kernel
theorem d_TS_startConfirmed_96 : decode b_TS_startConfirmed 96 = .ok (.ireturn, 1) := by decide +kernel
theorem d_TS_startConfirmed_97 : decode b_TS_startConfirmed 97 = .ok (.aload_n 0, 1) := by decide +kernel
theorem d_TS_startConfirmed_98 : decode b_TS_startConfirmed 98 = .ok (.iload_n 2, 1) := by decide +kernel
theorem d_TS_startConfirmed_99 : decode b_TS_startConfirmed 99 = .ok (.putfield 46, 3) := by decide +kernel
theorem d_TS_startConfirmed_102 : decode b_TS_startConfirmed 102 = .ok (.iload_n 2, 1) := by decide +kernel
theorem d_TS_startConfirmed_103 : decode b_TS_startConfirmed 103 = .ok (.ireturn, 1) := by decide +kernel
theorem d_TS_isConfirmed_0 : decode b_TS_isConfirmed 0 = .ok (.aload_n 0, 1) := by decide +kernel
theorem d_TS_isConfirmed_1 : decode b_TS_isConfirmed 1 = .ok (.getfield 31, 3) := by decide +kernel
theorem d_TS_isConfirmed_4 : decode b_TS_isConfirmed 4 = .ok (.invokevirtual 89, 3) := by decide +kernel
theorem d_TS_isConfirmed_7 : decode b_TS_isConfirmed 7 = .ok (.iload_n 1, 1) := by decide +kernel
theorem d_TS_isConfirmed_8 : decode b_TS_isConfirmed 8 = .ok (.invokestatic 135, 3) := by decide +kernel
theorem d_TS_isConfirmed_11 : decode b_TS_isConfirmed 11 = .ok (.iconst 3, 1) := by decide +kernel
theorem d_TS_isConfirmed_12 : decode b_TS_isConfirmed 12 = .ok (.if_icmp .ne (7), 3) := by decide +kernel
theorem d_TS_isConfirmed_15 : decode b_TS_isConfirmed 15 = .ok (.iconst 1, 1) := by decide +kernel
theorem d_TS_isConfirmed_16 : decode b_TS_isConfirmed 16 = .ok (.goto (4), 3) := by decide +kernel
theorem d_TS_isConfirmed_19 : decode b_TS_isConfirmed 19 = .ok (.iconst 0, 1) := by decide +kernel
theorem d_TS_isConfirmed_20 : decode b_TS_isConfirmed 20 = .ok (.ireturn, 1) := by decide +kernel
theorem d_TS_attempt_0 : decode b_TS_attempt 0 = .ok (.aload_n 0, 1) := by decide +kernel
theorem d_TS_attempt_1 : decode b_TS_attempt 1 = .ok (.invokevirtual 147, 3) := by decide +kernel
theorem d_TS_attempt_4 : decode b_TS_attempt 4 = .ok (.aload_n 0, 1) := by decide +kernel
theorem d_TS_attempt_5 : decode b_TS_attempt 5 = .ok (.getfield 31, 3) := by decide +kernel
theorem d_TS_attempt_8 : decode b_TS_attempt 8 = .ok (.iload_n 1, 1) := by decide +kernel
theorem d_TS_attempt_9 : decode b_TS_attempt 9 = .ok (.invokevirtual 126, 3) := by decide +kernel
theorem d_TS_attempt_12 : decode b_TS_attempt 12 = .ok (.istore_n 2, 1) := by decide +kernel
theorem d_TS_attempt_13 : decode b_TS_attempt 13 = .ok (.iload_n 1, 1) := by decide +kernel
theorem d_TS_attempt_14 : decode b_TS_attempt 14 = .ok (.invokestatic 157, 3) := by decide +kernel
theorem d_TS_attempt_17 : decode b_TS_attempt 17 = .ok (.istore_n 3, 1) := by decide +kernel
theorem d_TS_attempt_18 : decode b_TS_attempt 18 = .ok (.iload_n 2, 1) := by decide +kernel
theorem d_TS_attempt_19 : decode b_TS_attempt 19 = .ok (.invokestatic 63, 3) := by decide +kernel
theorem d_TS_attempt_22 : decode b_TS_attempt 22 = .ok (.ifCond .eq (35), 3) := by decide +kernel
theorem d_TS_attempt_25 : decode b_TS_attempt 25 = .ok (.iload_n 2, 1) := by decide +kernel
theorem d_TS_attempt_26 : decode b_TS_attempt 26 = .ok (.aload_n 0, 1) := by decide +kernel
theorem d_TS_attempt_27 : decode b_TS_attempt 27 = .ok (.getfield 31, 3) := by decide +kernel
theorem d_TS_attempt_30 : decode b_TS_attempt 30 = .ok (.getfield 132, 3) := by decide +kernel
theorem d_TS_attempt_33 : decode b_TS_attempt 33 = .ok (.if_icmp .lt (24), 3) := by decide +kernel
theorem d_TS_attempt_36 : decode b_TS_attempt 36 = .ok (.aload_n 0, 1) := by decide +kernel
theorem d_TS_attempt_37 : decode b_TS_attempt 37 = .ok (.getfield 31, 3) := by decide +kernel
theorem d_TS_attempt_40 : decode b_TS_attempt 40 = .ok (.getfield 141, 3) := by decide +kernel
theorem d_TS_attempt_43 : decode b_TS_attempt 43 = .ok (.iload_n 3, 1) := by decide +kernel
theorem d_TS_attempt_44 : decode b_TS_attempt 44 = .ok (.aload_n 0, 1) := by decide +kernel
theorem d_TS_attempt_45 : decode b_TS_attempt 45 = .ok (.getfield 14, 3) := by decide +kernel
theorem d_TS_attempt_48 : decode b_TS_attempt 48 = .ok (.invokevirtual 59, 3) := by decide +kernel
theorem d_TS_attempt_51 : decode b_TS_attempt 51 = .ok (.invokestatic 160, 3) := by decide +kernel
theorem d_TS_attempt_54 : decode b_TS_attempt 54 = .ok (.ifCond .ne (5), 3) := by decide +kernel
theorem d_TS_attempt_57 : decode b_TS_attempt 57 = .ok (.iconst 0, 1) := by decide +kernel
theorem d_TS_attempt_58 : decode b_TS_attempt 58 = .ok (.ireturn, 1) := by decide +kernel
theorem d_TS_attempt_59 : decode b_TS_attempt 59 = .ok (.iconst 0, 1) := by decide +kernel
theorem d_TS_attempt_60 : decode b_TS_attempt 60 = .ok (.istore 4, 2) := by decide +kernel
theorem d_TS_attempt_62 : decode b_TS_attempt 62 = .ok (.iload 4, 2) := by decide +kernel
theorem d_TS_attempt_64 : decode b_TS_attempt 64 = .ok (.iconst 3, 1) := by decide +kernel
theorem d_TS_attempt_65 : decode b_TS_attempt 65 = .ok (.if_icmp .ge (45), 3) := by decide +kernel
theorem d_TS_attempt_68 : decode b_TS_attempt 68 = .ok (.aload_n 0, 1) := by decide +kernel
theorem d_TS_attempt_69 : decode b_TS_attempt 69 = .ok (.getfield 31, 3) := by decide +kernel
theorem d_TS_attempt_72 : decode b_TS_attempt 72 = .ok (.getfield 141, 3) := by decide +kernel
theorem d_TS_attempt_75 : decode b_TS_attempt 75 = .ok (.iload_n 3, 1) := by decide +kernel
theorem d_TS_attempt_76 : decode b_TS_attempt 76 = .ok (.iload 4, 2) := by decide +kernel
theorem d_TS_attempt_78 : decode b_TS_attempt 78 = .ok (.invokestatic 164, 3) := by decide +kernel
theorem d_TS_attempt_81 : decode b_TS_attempt 81 = .ok (.ifCond .ne (5), 3) := by decide +kernel
theorem d_TS_attempt_84 : decode b_TS_attempt 84 = .ok (.iconst 0, 1) := by decide +kernel
theorem d_TS_attempt_85 : decode b_TS_attempt 85 = .ok (.ireturn, 1) := by decide +kernel
theorem d_TS_attempt_86 : decode b_TS_attempt 86 = .ok (.aload_n 0, 1) := by decide +kernel
theorem d_TS_attempt_87 : decode b_TS_attempt 87 = .ok (.aload_n 0, 1) := by decide +kernel
theorem d_TS_attempt_88 : decode b_TS_attempt 88 = .ok (.getfield 31, 3) := by decide +kernel
theorem d_TS_attempt_91 : decode b_TS_attempt 91 = .ok (.getfield 141, 3) := by decide +kernel
theorem d_TS_attempt_94 : decode b_TS_attempt 94 = .ok (.iload_n 3, 1) := by decide +kernel
theorem d_TS_attempt_95 : decode b_TS_attempt 95 = .ok (.iconst 1, 1) := by decide +kernel
theorem d_TS_attempt_96 : decode b_TS_attempt 96 = .ok (.iadd, 1) := by decide +kernel
theorem d_TS_attempt_97 : decode b_TS_attempt 97 = .ok (.iload 4, 2) := by decide +kernel
theorem d_TS_attempt_99 : decode b_TS_attempt 99 = .ok (.iadd, 1) := by decide +kernel
theorem d_TS_attempt_100 : decode b_TS_attempt 100 = .ok (.iaload, 1) := by decide +kernel
theorem d_TS_attempt_101 : decode b_TS_attempt 101 = .ok (.invokevirtual 167, 3) := by decide +kernel
theorem d_TS_attempt_104 : decode b_TS_attempt 104 = .ok (.iinc 4 (1), 3) := by decide +kernel
theorem d_TS_attempt_107 : decode b_TS_attempt 107 = .ok (.goto (-45), 3) := by decide +kernel
theorem d_TS_attempt_110 : decode b_TS_attempt 110 = .ok (.iconst 1, 1) := by decide +kernel
theorem d_TS_attempt_111 : decode b_TS_attempt 111 = .ok (.ireturn, 1) := by decide +kernel
theorem d_TS_enter_0 : decode b_TS_enter 0 = .ok (.aload_n 0, 1) := by decide +kernel
theorem d_TS_enter_1 : decode b_TS_enter 1 = .ok (.getfield 53, 3) := by decide +kernel
theorem d_TS_enter_4 : decode b_TS_enter 4 = .ok (.iconst 3, 1) := by decide +kernel
theorem d_TS_enter_5 : decode b_TS_enter 5 = .ok (.if_icmp .ge (23), 3) := by decide +kernel
theorem d_TS_enter_8 : decode b_TS_enter 8 = .ok (.aload_n 0, 1) := by decide +kernel
theorem d_TS_enter_9 : decode b_TS_enter 9 = .ok (.getfield 43, 3) := by decide +kernel
theorem d_TS_enter_12 : decode b_TS_enter 12 = .ok (.aload_n 0, 1) := by decide +kernel
theorem d_TS_enter_13 : decode b_TS_enter 13 = .ok (.getfield 53, 3) := by decide +kernel
theorem d_TS_enter_16 : decode b_TS_enter 16 = .ok (.iload_n 1, 1) := by decide +kernel
theorem d_TS_enter_17 : decode b_TS_enter 17 = .ok (.iastore, 1) := by decide +kernel
theorem d_TS_enter_18 : decode b_TS_enter 18 = .ok (.aload_n 0, 1) := by decide +kernel
theorem d_TS_enter_19 : decode b_TS_enter 19 = .ok (.dup, 1) := by decide +kernel
theorem d_TS_enter_20 : decode b_TS_enter 20 = .ok (.getfield 53, 3) := by decide +kernel
theorem d_TS_enter_23 : decode b_TS_enter 23 = .ok (.iconst 1, 1) := by decide +kernel
theorem d_TS_enter_24 : decode b_TS_enter 24 = .ok (.iadd, 1) := by decide +kernel
theorem d_TS_enter_25 : decode b_TS_enter 25 = .ok (.putfield 53, 3) := by decide +kernel
theorem d_TS_enter_28 : decode b_TS_enter 28 = .ok (.aload_n 0, 1) := by decide +kernel
theorem d_TS_enter_29 : decode b_TS_enter 29 = .ok (.aload_n 0, 1) := by decide +kernel
theorem d_TS_enter_30 : decode b_TS_enter 30 = .ok (.getfield 56, 3) := by decide +kernel
theorem d_TS_enter_33 : decode b_TS_enter 33 = .ok (.iload_n 1, 1) := by decide +kernel
theorem d_TS_enter_34 : decode b_TS_enter 34 = .ok (.invokestatic 170, 3) := by decide +kernel
theorem d_TS_enter_37 : decode b_TS_enter 37 = .ok (.putfield 56, 3) := by decide +kernel
theorem d_TS_enter_40 : decode b_TS_enter 40 = .ok (.return_, 1) := by decide +kernel
theorem d_TS_hash_0 : decode b_TS_hash 0 = .ok (.iload_n 0, 1) := by decide +kernel
theorem d_TS_hash_1 : decode b_TS_hash 1 = .ok (.ldc 173, 2) := by decide +kernel
theorem d_TS_hash_3 : decode b_TS_hash 3 = .ok (.ixor, 1) := by decide +kernel
theorem d_TS_hash_4 : decode b_TS_hash 4 = .ok (.ldc 174, 2) := by decide +kernel
theorem d_TS_hash_6 : decode b_TS_hash 6 = .ok (.imul, 1) := by decide +kernel
theorem d_TS_hash_7 : decode b_TS_hash 7 = .ok (.iload_n 1, 1) := by decide +kernel
theorem d_TS_hash_8 : decode b_TS_hash 8 = .ok (.iadd, 1) := by decide +kernel
theorem d_TS_hash_9 : decode b_TS_hash 9 = .ok (.istore_n 2, 1) := by decide +kernel
theorem d_TS_hash_10 : decode b_TS_hash 10 = .ok (.iload_n 2, 1) := by decide +kernel
theorem d_TS_hash_11 : decode b_TS_hash 11 = .ok (.iload_n 2, 1) := by decide +kernel
theorem d_TS_hash_12 : decode b_TS_hash 12 = .ok (.bipush 13, 2) := by decide +kernel
theorem d_TS_hash_14 : decode b_TS_hash 14 = .ok (.iushr, 1) := by decide +kernel
theorem d_TS_hash_15 : decode b_TS_hash 15 = .ok (.ixor, 1) := by decide +kernel
theorem d_TS_hash_16 : decode b_TS_hash 16 = .ok (.istore_n 2, 1) := by decide +kernel
theorem d_TS_hash_17 : decode b_TS_hash 17 = .ok (.iload_n 2, 1) := by decide +kernel
theorem d_TS_hash_18 : decode b_TS_hash 18 = .ok (.ldc 173, 2) := by decide +kernel
theorem d_TS_hash_20 : decode b_TS_hash 20 = .ok (.imul, 1) := by decide +kernel
theorem d_TS_hash_21 : decode b_TS_hash 21 = .ok (.istore_n 2, 1) := by decide +kernel
theorem d_TS_hash_22 : decode b_TS_hash 22 = .ok (.iload_n 2, 1) := by decide +kernel
theorem d_TS_hash_23 : decode b_TS_hash 23 = .ok (.iload_n 2, 1) := by decide +kernel
theorem d_TS_hash_24 : decode b_TS_hash 24 = .ok (.bipush 16, 2) := by decide +kernel
theorem d_TS_hash_26 : decode b_TS_hash 26 = .ok (.iushr, 1) := by decide +kernel
theorem d_TS_hash_27 : decode b_TS_hash 27 = .ok (.ixor, 1) := by decide +kernel
theorem d_TS_hash_28 : decode b_TS_hash 28 = .ok (.ireturn, 1) := by decide +kernel
theorem d_Mk_init_0 : decode b_Mk_init 0 = .ok (.aload_n 0, 1) := by decide +kernel
theorem d_Mk_init_1 : decode b_Mk_init 1 = .ok (.invokespecial 1, 3) := by decide +kernel
theorem d_Mk_init_4 : decode b_Mk_init 4 = .ok (.aload_n 0, 1) := by decide +kernel
theorem d_Mk_init_5 : decode b_Mk_init 5 = .ok (.iload_n 1, 1) := by decide +kernel
theorem d_Mk_init_6 : decode b_Mk_init 6 = .ok (.putfield 7, 3) := by decide +kernel
theorem d_Mk_init_9 : decode b_Mk_init 9 = .ok (.aload_n 0, 1) := by decide +kernel
theorem d_Mk_init_10 : decode b_Mk_init 10 = .ok (.bipush 16, 2) := by decide +kernel
theorem d_Mk_init_12 : decode b_Mk_init 12 = .ok (.newarray .int, 2) := by decide +kernel
theorem d_Mk_init_14 : decode b_Mk_init 14 = .ok (.putfield 15, 3) := by decide +kernel
theorem d_Mk_init_17 : decode b_Mk_init 17 = .ok (.aload_n 0, 1) := by decide +kernel
theorem d_Mk_init_18 : decode b_Mk_init 18 = .ok (.iconst 0, 1) := by decide +kernel
theorem d_Mk_init_19 : decode b_Mk_init 19 = .ok (.putfield 19, 3) := by decide +kernel
theorem d_Mk_init_22 : decode b_Mk_init 22 = .ok (.iconst 0, 1) := by decide +kernel
theorem d_Mk_init_23 : decode b_Mk_init 23 = .ok (.istore_n 2, 1) := by decide +kernel
theorem d_Mk_init_24 : decode b_Mk_init 24 = .ok (.iload_n 2, 1) := by decide +kernel
theorem d_Mk_init_25 : decode b_Mk_init 25 = .ok (.bipush 8, 2) := by decide +kernel
theorem d_Mk_init_27 : decode b_Mk_init 27 = .ok (.if_icmp .ge (23), 3) := by decide +kernel
theorem d_Mk_init_30 : decode b_Mk_init 30 = .ok (.aload_n 0, 1) := by decide +kernel
theorem d_Mk_init_31 : decode b_Mk_init 31 = .ok (.getfield 15, 3) := by decide +kernel
theorem d_Mk_init_34 : decode b_Mk_init 34 = .ok (.bipush 8, 2) := by decide +kernel
theorem d_Mk_init_36 : decode b_Mk_init 36 = .ok (.iload_n 2, 1) := by decide +kernel
theorem d_Mk_init_37 : decode b_Mk_init 37 = .ok (.iadd, 1) := by decide +kernel
theorem d_Mk_init_38 : decode b_Mk_init 38 = .ok (.iload_n 1, 1) := by decide +kernel
theorem d_Mk_init_39 : decode b_Mk_init 39 = .ok (.iload_n 2, 1) := by decide +kernel
theorem d_Mk_init_40 : decode b_Mk_init 40 = .ok (.invokestatic 22, 3) := by decide +kernel
theorem d_Mk_init_43 : decode b_Mk_init 43 = .ok (.iastore, 1) := by decide +kernel
theorem d_Mk_init_44 : decode b_Mk_init 44 = .ok (.iinc 2 (1), 3) := by decide +kernel
theorem d_Mk_init_47 : decode b_Mk_init 47 = .ok (.goto (-23), 3) := by decide +kernel
theorem d_Mk_init_50 : decode b_Mk_init 50 = .ok (.bipush 7, 2) := by decide +kernel
theorem d_Mk_init_52 : decode b_Mk_init 52 = .ok (.istore_n 2, 1) := by decide +kernel
theorem d_Mk_init_53 : decode b_Mk_init 53 = .ok (.iload_n 2, 1) := by decide +kernel
theorem d_Mk_init_54 : decode b_Mk_init 54 = .ok (.iconst 1, 1) := by decide +kernel
theorem d_Mk_init_55 : decode b_Mk_init 55 = .ok (.if_icmp .lt (37), 3) := by decide +kernel
theorem d_Mk_init_58 : decode b_Mk_init 58 = .ok (.aload_n 0, 1) := by decide +kernel
theorem d_Mk_init_59 : decode b_Mk_init 59 = .ok (.getfield 15, 3) := by decide +kernel
theorem d_Mk_init_62 : decode b_Mk_init 62 = .ok (.iload_n 2, 1) := by decide +kernel
theorem d_Mk_init_63 : decode b_Mk_init 63 = .ok (.aload_n 0, 1) := by decide +kernel
theorem d_Mk_init_64 : decode b_Mk_init 64 = .ok (.getfield 15, 3) := by decide +kernel
theorem d_Mk_init_67 : decode b_Mk_init 67 = .ok (.iconst 2, 1) := by decide +kernel
theorem d_Mk_init_68 : decode b_Mk_init 68 = .ok (.iload_n 2, 1) := by decide +kernel
theorem d_Mk_init_69 : decode b_Mk_init 69 = .ok (.imul, 1) := by decide +kernel
theorem d_Mk_init_70 : decode b_Mk_init 70 = .ok (.iaload, 1) := by decide +kernel
theorem d_Mk_init_71 : decode b_Mk_init 71 = .ok (.aload_n 0, 1) := by decide +kernel
theorem d_Mk_init_72 : decode b_Mk_init 72 = .ok (.getfield 15, 3) := by decide +kernel
theorem d_Mk_init_75 : decode b_Mk_init 75 = .ok (.iconst 2, 1) := by decide +kernel
theorem d_Mk_init_76 : decode b_Mk_init 76 = .ok (.iload_n 2, 1) := by decide +kernel
theorem d_Mk_init_77 : decode b_Mk_init 77 = .ok (.imul, 1) := by decide +kernel
theorem d_Mk_init_78 : decode b_Mk_init 78 = .ok (.iconst 1, 1) := by decide +kernel
theorem d_Mk_init_79 : decode b_Mk_init 79 = .ok (.iadd, 1) := by decide +kernel
theorem d_Mk_init_80 : decode b_Mk_init 80 = .ok (.iaload, 1) := by decide +kernel
theorem d_Mk_init_81 : decode b_Mk_init 81 = .ok (.iload_n 2, 1) := by decide +kernel
theorem d_Mk_init_82 : decode b_Mk_init 82 = .ok (.invokestatic 26, 3) := by decide +kernel
theorem d_Mk_init_85 : decode b_Mk_init 85 = .ok (.iastore, 1) := by decide +kernel
theorem d_Mk_init_86 : decode b_Mk_init 86 = .ok (.iinc 2 (-1), 3) := by decide +kernel
theorem d_Mk_init_89 : decode b_Mk_init 89 = .ok (.goto (-36), 3) := by decide +kernel
theorem d_Mk_init_92 : decode b_Mk_init 92 = .ok (.return_, 1) := by decide +kernel
theorem d_Mk_root_0 : decode b_Mk_root 0 = .ok (.aload_n 0, 1) := by decide +kernel
theorem d_Mk_root_1 : decode b_Mk_root 1 = .ok (.getfield 15, 3) := by decide +kernel
theorem d_Mk_root_4 : decode b_Mk_root 4 = .ok (.iconst 1, 1) := by decide +kernel
theorem d_Mk_root_5 : decode b_Mk_root 5 = .ok (.iaload, 1) := by decide +kernel
theorem d_Mk_root_6 : decode b_Mk_root 6 = .ok (.ireturn, 1) := by decide +kernel
theorem d_Mk_hasKeyLeft_0 : decode b_Mk_hasKeyLeft 0 = .ok (.aload_n 0, 1) := by decide +kernel
theorem d_Mk_hasKeyLeft_1 : decode b_Mk_hasKeyLeft 1 = .ok (.getfield 19, 3) := by decide +kernel
theorem d_Mk_hasKeyLeft_4 : decode b_Mk_hasKeyLeft 4 = .ok (.bipush 8, 2) := by decide +kernel
theorem d_Mk_hasKeyLeft_6 : decode b_Mk_hasKeyLeft 6 = .ok (.if_icmp .ge (7), 3) := by decide +kernel
theorem d_Mk_hasKeyLeft_9 : decode b_Mk_hasKeyLeft 9 = .ok (.iconst 1, 1) := by decide +kernel
theorem d_Mk_hasKeyLeft_10 : decode b_Mk_hasKeyLeft 10 = .ok (.goto (4), 3) := by decide +kernel
theorem d_Mk_hasKeyLeft_13 : decode b_Mk_hasKeyLeft 13 = .ok (.iconst 0, 1) := by decide +kernel
theorem d_Mk_hasKeyLeft_14 : decode b_Mk_hasKeyLeft 14 = .ok (.ireturn, 1) := by decide +kernel
theorem d_Mk_pack_0 : decode b_Mk_pack 0 = .ok (.aload_n 1, 1) := by decide +kernel
theorem d_Mk_pack_1 : decode b_Mk_pack 1 = .ok (.iload_n 2, 1) := by decide +kernel
theorem d_Mk_pack_2 : decode b_Mk_pack 2 = .ok (.iload_n 3, 1) := by decide +kernel
theorem d_Mk_pack_3 : decode b_Mk_pack 3 = .ok (.iastore, 1) := by decide +kernel
theorem d_Mk_pack_4 : decode b_Mk_pack 4 = .ok (.aload_n 1, 1) := by decide +kernel
theorem d_Mk_pack_5 : decode b_Mk_pack 5 = .ok (.iload_n 2, 1) := by decide +kernel
theorem d_Mk_pack_6 : decode b_Mk_pack 6 = .ok (.iconst 0, 1) := by decide +kernel
theorem d_Mk_pack_7 : decode b_Mk_pack 7 = .ok (.iload 4, 2) := by decide +kernel
theorem d_Mk_pack_9 : decode b_Mk_pack 9 = .ok (.invokestatic 30, 3) := by decide +kernel
theorem d_Mk_pack_12 : decode b_Mk_pack 12 = .ok (.aload_n 1, 1) := by decide +kernel
theorem d_Mk_pack_13 : decode b_Mk_pack 13 = .ok (.iload_n 2, 1) := by decide +kernel
theorem d_Mk_pack_14 : decode b_Mk_pack 14 = .ok (.iconst 1, 1) := by decide +kernel
theorem d_Mk_pack_15 : decode b_Mk_pack 15 = .ok (.iload 5, 2) := by decide +kernel
theorem d_Mk_pack_17 : decode b_Mk_pack 17 = .ok (.invokestatic 30, 3) := by decide +kernel
theorem d_Mk_pack_20 : decode b_Mk_pack 20 = .ok (.aload_n 1, 1) := by decide +kernel
theorem d_Mk_pack_21 : decode b_Mk_pack 21 = .ok (.iload_n 2, 1) := by decide +kernel
theorem d_Mk_pack_22 : decode b_Mk_pack 22 = .ok (.iconst 2, 1) := by decide +kernel
theorem d_Mk_pack_23 : decode b_Mk_pack 23 = .ok (.iload 6, 2) := by decide +kernel
theorem d_Mk_pack_25 : decode b_Mk_pack 25 = .ok (.invokestatic 30, 3) := by decide +kernel
theorem d_Mk_pack_28 : decode b_Mk_pack 28 = .ok (.aload_n 1, 1) := by decide +kernel
theorem d_Mk_pack_29 : decode b_Mk_pack 29 = .ok (.iload_n 2, 1) := by decide +kernel
end
section
theorem d_Mk_pack_30 : decode b_Mk_pack 30 = .ok (.iconst 4, 1) := by decide +kernel
theorem d_Mk_pack_31 : decode b_Mk_pack 31 = .ok (.iadd, 1) := by decide +kernel
theorem d_Mk_pack_32 : decode b_Mk_pack 32 = .ok (.aload_n 0, 1) := by decide +kernel
theorem d_Mk_pack_33 : decode b_Mk_pack 33 = .ok (.getfield 19, 3) := by decide +kernel
theorem d_Mk_pack_36 : decode b_Mk_pack 36 = .ok (.iastore, 1) := by decide +kernel
theorem d_Mk_pack_37 : decode b_Mk_pack 37 = .ok (.aload_n 0, 1) := by decide +kernel
theorem d_Mk_pack_38 : decode b_Mk_pack 38 = .ok (.aload_n 1, 1) := by decide +kernel
theorem d_Mk_pack_39 : decode b_Mk_pack 39 = .ok (.iload_n 2, 1) := by decide +kernel
theorem d_Mk_pack_40 : decode b_Mk_pack 40 = .ok (.invokevirtual 36, 3) := by decide +kernel
theorem d_Mk_pack_43 : decode b_Mk_pack 43 = .ok (.aload_n 0, 1) := by decide +kernel
theorem d_Mk_pack_44 : decode b_Mk_pack 44 = .ok (.aload_n 1, 1) := by decide +kernel
theorem d_Mk_pack_45 : decode b_Mk_pack 45 = .ok (.iload_n 2, 1) := by decide +kernel
theorem d_Mk_pack_46 : decode b_Mk_pack 46 = .ok (.invokevirtual 40, 3) := by decide +kernel
theorem d_Mk_pack_49 : decode b_Mk_pack 49 = .ok (.aload_n 0, 1) := by decide +kernel
theorem d_Mk_pack_50 : decode b_Mk_pack 50 = .ok (.dup, 1) := by decide +kernel
theorem d_Mk_pack_51 : decode b_Mk_pack 51 = .ok (.getfield 19, 3) := by decide +kernel
theorem d_Mk_pack_54 : decode b_Mk_pack 54 = .ok (.iconst 1, 1) := by decide +kernel
theorem d_Mk_pack_55 : decode b_Mk_pack 55 = .ok (.iadd, 1) := by decide +kernel
theorem d_Mk_pack_56 : decode b_Mk_pack 56 = .ok (.putfield 19, 3) := by decide +kernel
theorem d_Mk_pack_59 : decode b_Mk_pack 59 = .ok (.return_, 1) := by decide +kernel
theorem d_Mk_putChains_0 : decode b_Mk_putChains 0 = .ok (.aload_n 1, 1) := by decide +kernel
theorem d_Mk_putChains_1 : decode b_Mk_putChains 1 = .ok (.iload_n 2, 1) := by decide +kernel
theorem d_Mk_putChains_2 : decode b_Mk_putChains 2 = .ok (.invokestatic 43, 3) := by decide +kernel
theorem d_Mk_putChains_5 : decode b_Mk_putChains 5 = .ok (.istore_n 3, 1) := by decide +kernel
theorem d_Mk_putChains_6 : decode b_Mk_putChains 6 = .ok (.iconst 0, 1) := by decide +kernel
theorem d_Mk_putChains_7 : decode b_Mk_putChains 7 = .ok (.istore 4, 2) := by decide +kernel
theorem d_Mk_putChains_9 : decode b_Mk_putChains 9 = .ok (.iload 4, 2) := by decide +kernel
theorem d_Mk_putChains_11 : decode b_Mk_putChains 11 = .ok (.bipush 6, 2) := by decide +kernel
theorem d_Mk_putChains_13 : decode b_Mk_putChains 13 = .ok (.if_icmp .ge (46), 3) := by decide +kernel
theorem d_Mk_putChains_16 : decode b_Mk_putChains 16 = .ok (.aload_n 0, 1) := by decide +kernel
theorem d_Mk_putChains_17 : decode b_Mk_putChains 17 = .ok (.getfield 7, 3) := by decide +kernel
theorem d_Mk_putChains_20 : decode b_Mk_putChains 20 = .ok (.aload_n 0, 1) := by decide +kernel
theorem d_Mk_putChains_21 : decode b_Mk_putChains 21 = .ok (.getfield 19, 3) := by decide +kernel
theorem d_Mk_putChains_24 : decode b_Mk_putChains 24 = .ok (.iload 4, 2) := by decide +kernel
theorem d_Mk_putChains_26 : decode b_Mk_putChains 26 = .ok (.invokestatic 47, 3) := by decide +kernel
theorem d_Mk_putChains_29 : decode b_Mk_putChains 29 = .ok (.istore 5, 2) := by decide +kernel
theorem d_Mk_putChains_31 : decode b_Mk_putChains 31 = .ok (.aload_n 1, 1) := by decide +kernel
theorem d_Mk_putChains_32 : decode b_Mk_putChains 32 = .ok (.iload_n 2, 1) := by decide +kernel
theorem d_Mk_putChains_33 : decode b_Mk_putChains 33 = .ok (.iconst 5, 1) := by decide +kernel
theorem d_Mk_putChains_34 : decode b_Mk_putChains 34 = .ok (.iadd, 1) := by decide +kernel
theorem d_Mk_putChains_35 : decode b_Mk_putChains 35 = .ok (.iload 4, 2) := by decide +kernel
theorem d_Mk_putChains_37 : decode b_Mk_putChains 37 = .ok (.iadd, 1) := by decide +kernel
theorem d_Mk_putChains_38 : decode b_Mk_putChains 38 = .ok (.iload 5, 2) := by decide +kernel
theorem d_Mk_putChains_40 : decode b_Mk_putChains 40 = .ok (.iload 4, 2) := by decide +kernel
theorem d_Mk_putChains_42 : decode b_Mk_putChains 42 = .ok (.iconst 0, 1) := by decide +kernel
theorem d_Mk_putChains_43 : decode b_Mk_putChains 43 = .ok (.iload_n 3, 1) := by decide +kernel
theorem d_Mk_putChains_44 : decode b_Mk_putChains 44 = .ok (.iload 4, 2) := by decide +kernel
theorem d_Mk_putChains_46 : decode b_Mk_putChains 46 = .ok (.invokestatic 50, 3) := by decide +kernel
theorem d_Mk_putChains_49 : decode b_Mk_putChains 49 = .ok (.invokestatic 53, 3) := by decide +kernel
theorem d_Mk_putChains_52 : decode b_Mk_putChains 52 = .ok (.iastore, 1) := by decide +kernel
theorem d_Mk_putChains_53 : decode b_Mk_putChains 53 = .ok (.iinc 4 (1), 3) := by decide +kernel
theorem d_Mk_putChains_56 : decode b_Mk_putChains 56 = .ok (.goto (-47), 3) := by decide +kernel
theorem d_Mk_putChains_59 : decode b_Mk_putChains 59 = .ok (.return_, 1) := by decide +kernel
theorem d_Mk_putPath_0 : decode b_Mk_putPath 0 = .ok (.bipush 8, 2) := by decide +kernel
theorem d_Mk_putPath_2 : decode b_Mk_putPath 2 = .ok (.aload_n 0, 1) := by decide +kernel
theorem d_Mk_putPath_3 : decode b_Mk_putPath 3 = .ok (.getfield 19, 3) := by decide +kernel
theorem d_Mk_putPath_6 : decode b_Mk_putPath 6 = .ok (.iadd, 1) := by decide +kernel
theorem d_Mk_putPath_7 : decode b_Mk_putPath 7 = .ok (.istore_n 3, 1) := by decide +kernel
theorem d_Mk_putPath_8 : decode b_Mk_putPath 8 = .ok (.iconst 0, 1) := by decide +kernel
theorem d_Mk_putPath_9 : decode b_Mk_putPath 9 = .ok (.istore 4, 2) := by decide +kernel
theorem d_Mk_putPath_11 : decode b_Mk_putPath 11 = .ok (.iload 4, 2) := by decide +kernel
theorem d_Mk_putPath_13 : decode b_Mk_putPath 13 = .ok (.iconst 3, 1) := by decide +kernel
theorem d_Mk_putPath_14 : decode b_Mk_putPath 14 = .ok (.if_icmp .ge (30), 3) := by decide +kernel
theorem d_Mk_putPath_17 : decode b_Mk_putPath 17 = .ok (.aload_n 1, 1) := by decide +kernel
theorem d_Mk_putPath_18 : decode b_Mk_putPath 18 = .ok (.iload_n 2, 1) := by decide +kernel
theorem d_Mk_putPath_19 : decode b_Mk_putPath 19 = .ok (.bipush 11, 2) := by decide +kernel
theorem d_Mk_putPath_21 : decode b_Mk_putPath 21 = .ok (.iadd, 1) := by decide +kernel
theorem d_Mk_putPath_22 : decode b_Mk_putPath 22 = .ok (.iload 4, 2) := by decide +kernel
theorem d_Mk_putPath_24 : decode b_Mk_putPath 24 = .ok (.iadd, 1) := by decide +kernel
theorem d_Mk_putPath_25 : decode b_Mk_putPath 25 = .ok (.aload_n 0, 1) := by decide +kernel
theorem d_Mk_putPath_26 : decode b_Mk_putPath 26 = .ok (.getfield 15, 3) := by decide +kernel
theorem d_Mk_putPath_29 : decode b_Mk_putPath 29 = .ok (.iload_n 3, 1) := by decide +kernel
theorem d_Mk_putPath_30 : decode b_Mk_putPath 30 = .ok (.iconst 1, 1) := by decide +kernel
theorem d_Mk_putPath_31 : decode b_Mk_putPath 31 = .ok (.ixor, 1) := by decide +kernel
theorem d_Mk_putPath_32 : decode b_Mk_putPath 32 = .ok (.iaload, 1) := by decide +kernel
theorem d_Mk_putPath_33 : decode b_Mk_putPath 33 = .ok (.iastore, 1) := by decide +kernel
theorem d_Mk_putPath_34 : decode b_Mk_putPath 34 = .ok (.iload_n 3, 1) := by decide +kernel
theorem d_Mk_putPath_35 : decode b_Mk_putPath 35 = .ok (.iconst 2, 1) := by decide +kernel
theorem d_Mk_putPath_36 : decode b_Mk_putPath 36 = .ok (.idiv, 1) := by decide +kernel
theorem d_Mk_putPath_37 : decode b_Mk_putPath 37 = .ok (.istore_n 3, 1) := by decide +kernel
theorem d_Mk_putPath_38 : decode b_Mk_putPath 38 = .ok (.iinc 4 (1), 3) := by decide +kernel
theorem d_Mk_putPath_41 : decode b_Mk_putPath 41 = .ok (.goto (-30), 3) := by decide +kernel
theorem d_Mk_putPath_44 : decode b_Mk_putPath 44 = .ok (.return_, 1) := by decide +kernel
theorem d_Mk_leaf_0 : decode b_Mk_leaf 0 = .ok (.iload_n 1, 1) := by decide +kernel
theorem d_Mk_leaf_1 : decode b_Mk_leaf 1 = .ok (.istore_n 2, 1) := by decide +kernel
theorem d_Mk_leaf_2 : decode b_Mk_leaf 2 = .ok (.iconst 0, 1) := by decide +kernel
theorem d_Mk_leaf_3 : decode b_Mk_leaf 3 = .ok (.istore_n 3, 1) := by decide +kernel
theorem d_Mk_leaf_4 : decode b_Mk_leaf 4 = .ok (.iload_n 3, 1) := by decide +kernel
theorem d_Mk_leaf_5 : decode b_Mk_leaf 5 = .ok (.bipush 6, 2) := by decide +kernel
theorem d_Mk_leaf_7 : decode b_Mk_leaf 7 = .ok (.if_icmp .ge (27), 3) := by decide +kernel
theorem d_Mk_leaf_10 : decode b_Mk_leaf 10 = .ok (.iload_n 2, 1) := by decide +kernel
theorem d_Mk_leaf_11 : decode b_Mk_leaf 11 = .ok (.iload_n 0, 1) := by decide +kernel
theorem d_Mk_leaf_12 : decode b_Mk_leaf 12 = .ok (.iload_n 1, 1) := by decide +kernel
theorem d_Mk_leaf_13 : decode b_Mk_leaf 13 = .ok (.iload_n 3, 1) := by decide +kernel
theorem d_Mk_leaf_14 : decode b_Mk_leaf 14 = .ok (.invokestatic 47, 3) := by decide +kernel
theorem d_Mk_leaf_17 : decode b_Mk_leaf 17 = .ok (.iload_n 3, 1) := by decide +kernel
theorem d_Mk_leaf_18 : decode b_Mk_leaf 18 = .ok (.iconst 0, 1) := by decide +kernel
theorem d_Mk_leaf_19 : decode b_Mk_leaf 19 = .ok (.bipush 15, 2) := by decide +kernel
theorem d_Mk_leaf_21 : decode b_Mk_leaf 21 = .ok (.invokestatic 53, 3) := by decide +kernel
theorem d_Mk_leaf_24 : decode b_Mk_leaf 24 = .ok (.invokestatic 57, 3) := by decide +kernel
theorem d_Mk_leaf_27 : decode b_Mk_leaf 27 = .ok (.istore_n 2, 1) := by decide +kernel
theorem d_Mk_leaf_28 : decode b_Mk_leaf 28 = .ok (.iinc 3 (1), 3) := by decide +kernel
theorem d_Mk_leaf_31 : decode b_Mk_leaf 31 = .ok (.goto (-27), 3) := by decide +kernel
theorem d_Mk_leaf_34 : decode b_Mk_leaf 34 = .ok (.iload_n 2, 1) := by decide +kernel
theorem d_Mk_leaf_35 : decode b_Mk_leaf 35 = .ok (.ireturn, 1) := by decide +kernel
theorem d_Mk_chainStart_0 : decode b_Mk_chainStart 0 = .ok (.iload_n 0, 1) := by decide +kernel
theorem d_Mk_chainStart_1 : decode b_Mk_chainStart 1 = .ok (.iload_n 1, 1) := by decide +kernel
theorem d_Mk_chainStart_2 : decode b_Mk_chainStart 2 = .ok (.invokestatic 57, 3) := by decide +kernel
theorem d_Mk_chainStart_5 : decode b_Mk_chainStart 5 = .ok (.iload_n 2, 1) := by decide +kernel
theorem d_Mk_chainStart_6 : decode b_Mk_chainStart 6 = .ok (.invokestatic 57, 3) := by decide +kernel
theorem d_Mk_chainStart_9 : decode b_Mk_chainStart 9 = .ok (.ireturn, 1) := by decide +kernel
theorem d_PW_isVersion_0 : decode b_PW_isVersion 0 = .ok (.iload_n 0, 1) := by decide +kernel
theorem d_PW_isVersion_1 : decode b_PW_isVersion 1 = .ok (.iconst 1, 1) := by decide +kernel
theorem d_PW_isVersion_2 : decode b_PW_isVersion 2 = .ok (.if_icmp .lt (13), 3) := by decide +kernel
theorem d_PW_isVersion_5 : decode b_PW_isVersion 5 = .ok (.iload_n 0, 1) := by decide +kernel
theorem d_PW_isVersion_6 : decode b_PW_isVersion 6 = .ok (.bipush 32, 2) := by decide +kernel
theorem d_PW_isVersion_8 : decode b_PW_isVersion 8 = .ok (.if_icmp .gt (7), 3) := by decide +kernel
theorem d_PW_isVersion_11 : decode b_PW_isVersion 11 = .ok (.iconst 1, 1) := by decide +kernel
theorem d_PW_isVersion_12 : decode b_PW_isVersion 12 = .ok (.goto (4), 3) := by decide +kernel
theorem d_PW_isVersion_15 : decode b_PW_isVersion 15 = .ok (.iconst 0, 1) := by decide +kernel
theorem d_PW_isVersion_16 : decode b_PW_isVersion 16 = .ok (.ireturn, 1) := by decide +kernel
theorem d_PW_putStage_0 : decode b_PW_putStage 0 = .ok (.aload_n 0, 1) := by decide +kernel
theorem d_PW_putStage_1 : decode b_PW_putStage 1 = .ok (.iload_n 1, 1) := by decide +kernel
theorem d_PW_putStage_2 : decode b_PW_putStage 2 = .ok (.iconst 1, 1) := by decide +kernel
theorem d_PW_putStage_3 : decode b_PW_putStage 3 = .ok (.iadd, 1) := by decide +kernel
theorem d_PW_putStage_4 : decode b_PW_putStage 4 = .ok (.iload_n 2, 1) := by decide +kernel
theorem d_PW_putStage_5 : decode b_PW_putStage 5 = .ok (.iadd, 1) := by decide +kernel
theorem d_PW_putStage_6 : decode b_PW_putStage 6 = .ok (.iload_n 3, 1) := by decide +kernel
theorem d_PW_putStage_7 : decode b_PW_putStage 7 = .ok (.iload_n 2, 1) := by decide +kernel
theorem d_PW_putStage_8 : decode b_PW_putStage 8 = .ok (.invokestatic 11, 3) := by decide +kernel
theorem d_PW_putStage_11 : decode b_PW_putStage 11 = .ok (.iastore, 1) := by decide +kernel
theorem d_PW_putStage_12 : decode b_PW_putStage 12 = .ok (.aload_n 0, 1) := by decide +kernel
theorem d_PW_putStage_13 : decode b_PW_putStage 13 = .ok (.iload_n 1, 1) := by decide +kernel
theorem d_PW_putStage_14 : decode b_PW_putStage 14 = .ok (.bipush 14, 2) := by decide +kernel
theorem d_PW_putStage_16 : decode b_PW_putStage 16 = .ok (.iadd, 1) := by decide +kernel
theorem d_PW_putStage_17 : decode b_PW_putStage 17 = .ok (.iload_n 2, 1) := by decide +kernel
theorem d_PW_putStage_18 : decode b_PW_putStage 18 = .ok (.iadd, 1) := by decide +kernel
theorem d_PW_putStage_19 : decode b_PW_putStage 19 = .ok (.iload_n 3, 1) := by decide +kernel
theorem d_PW_putStage_20 : decode b_PW_putStage 20 = .ok (.iastore, 1) := by decide +kernel
theorem d_PW_putStage_21 : decode b_PW_putStage 21 = .ok (.return_, 1) := by decide +kernel
theorem d_PW_isStageWhole_0 : decode b_PW_isStageWhole 0 = .ok (.aload_n 0, 1) := by decide +kernel
theorem d_PW_isStageWhole_1 : decode b_PW_isStageWhole 1 = .ok (.iload_n 1, 1) := by decide +kernel
theorem d_PW_isStageWhole_2 : decode b_PW_isStageWhole 2 = .ok (.iconst 1, 1) := by decide +kernel
theorem d_PW_isStageWhole_3 : decode b_PW_isStageWhole 3 = .ok (.iadd, 1) := by decide +kernel
theorem d_PW_isStageWhole_4 : decode b_PW_isStageWhole 4 = .ok (.iload_n 2, 1) := by decide +kernel
theorem d_PW_isStageWhole_5 : decode b_PW_isStageWhole 5 = .ok (.iadd, 1) := by decide +kernel
theorem d_PW_isStageWhole_6 : decode b_PW_isStageWhole 6 = .ok (.iaload, 1) := by decide +kernel
theorem d_PW_isStageWhole_7 : decode b_PW_isStageWhole 7 = .ok (.aload_n 0, 1) := by decide +kernel
theorem d_PW_isStageWhole_8 : decode b_PW_isStageWhole 8 = .ok (.iload_n 1, 1) := by decide +kernel
theorem d_PW_isStageWhole_9 : decode b_PW_isStageWhole 9 = .ok (.bipush 14, 2) := by decide +kernel
theorem d_PW_isStageWhole_11 : decode b_PW_isStageWhole 11 = .ok (.iadd, 1) := by decide +kernel
theorem d_PW_isStageWhole_12 : decode b_PW_isStageWhole 12 = .ok (.iload_n 2, 1) := by decide +kernel
theorem d_PW_isStageWhole_13 : decode b_PW_isStageWhole 13 = .ok (.iadd, 1) := by decide +kernel
theorem d_PW_isStageWhole_14 : decode b_PW_isStageWhole 14 = .ok (.iaload, 1) := by decide +kernel
theorem d_PW_isStageWhole_15 : decode b_PW_isStageWhole 15 = .ok (.iload_n 2, 1) := by decide +kernel
theorem d_PW_isStageWhole_16 : decode b_PW_isStageWhole 16 = .ok (.invokestatic 11, 3) := by decide +kernel
theorem d_PW_isStageWhole_19 : decode b_PW_isStageWhole 19 = .ok (.if_icmp .ne (7), 3) := by decide +kernel
theorem d_PW_isStageWhole_22 : decode b_PW_isStageWhole 22 = .ok (.iconst 1, 1) := by decide +kernel
theorem d_PW_isStageWhole_23 : decode b_PW_isStageWhole 23 = .ok (.goto (4), 3) := by decide +kernel
theorem d_PW_isStageWhole_26 : decode b_PW_isStageWhole 26 = .ok (.iconst 0, 1) := by decide +kernel
theorem d_PW_isStageWhole_27 : decode b_PW_isStageWhole 27 = .ok (.ireturn, 1) := by decide +kernel
theorem d_PW_whatIsWrong_0 : decode b_PW_whatIsWrong 0 = .ok (.aload_n 0, 1) := by decide +kernel
theorem d_PW_whatIsWrong_1 : decode b_PW_whatIsWrong 1 = .ok (.iload_n 1, 1) := by decide +kernel
theorem d_PW_whatIsWrong_2 : decode b_PW_whatIsWrong 2 = .ok (.iaload, 1) := by decide +kernel
theorem d_PW_whatIsWrong_3 : decode b_PW_whatIsWrong 3 = .ok (.invokestatic 15, 3) := by decide +kernel
theorem d_PW_whatIsWrong_6 : decode b_PW_whatIsWrong 6 = .ok (.ifCond .ne (5), 3) := by decide +kernel
theorem d_PW_whatIsWrong_9 : decode b_PW_whatIsWrong 9 = .ok (.iconst 1, 1) := by decide +kernel
theorem d_PW_whatIsWrong_10 : decode b_PW_whatIsWrong 10 = .ok (.ireturn, 1) := by decide +kernel
theorem d_PW_whatIsWrong_11 : decode b_PW_whatIsWrong 11 = .ok (.aload_n 0, 1) := by decide +kernel
theorem d_PW_whatIsWrong_12 : decode b_PW_whatIsWrong 12 = .ok (.iload_n 1, 1) := by decide +kernel
theorem d_PW_whatIsWrong_13 : decode b_PW_whatIsWrong 13 = .ok (.iload_n 2, 1) := by decide +kernel
theorem d_PW_whatIsWrong_14 : decode b_PW_whatIsWrong 14 = .ok (.invokestatic 19, 3) := by decide +kernel
theorem d_PW_whatIsWrong_17 : decode b_PW_whatIsWrong 17 = .ok (.ifCond .ne (5), 3) := by decide +kernel
theorem d_PW_whatIsWrong_20 : decode b_PW_whatIsWrong 20 = .ok (.iconst 2, 1) := by decide +kernel
theorem d_PW_whatIsWrong_21 : decode b_PW_whatIsWrong 21 = .ok (.ireturn, 1) := by decide +kernel
theorem d_PW_whatIsWrong_22 : decode b_PW_whatIsWrong 22 = .ok (.iconst 0, 1) := by decide +kernel
theorem d_PW_whatIsWrong_23 : decode b_PW_whatIsWrong 23 = .ok (.istore_n 3, 1) := by decide +kernel
theorem d_PW_whatIsWrong_24 : decode b_PW_whatIsWrong 24 = .ok (.iload_n 3, 1) := by decide +kernel
theorem d_PW_whatIsWrong_25 : decode b_PW_whatIsWrong 25 = .ok (.iconst 3, 1) := by decide +kernel
theorem d_PW_whatIsWrong_26 : decode b_PW_whatIsWrong 26 = .ok (.if_icmp .ge (22), 3) := by decide +kernel
theorem d_PW_whatIsWrong_29 : decode b_PW_whatIsWrong 29 = .ok (.aload_n 0, 1) := by decide +kernel
theorem d_PW_whatIsWrong_30 : decode b_PW_whatIsWrong 30 = .ok (.iload_n 1, 1) := by decide +kernel
theorem d_PW_whatIsWrong_31 : decode b_PW_whatIsWrong 31 = .ok (.iload_n 3, 1) := by decide +kernel
theorem d_PW_whatIsWrong_32 : decode b_PW_whatIsWrong 32 = .ok (.invokestatic 25, 3) := by decide +kernel
theorem d_PW_whatIsWrong_35 : decode b_PW_whatIsWrong 35 = .ok (.ifCond .ne (7), 3) := by decide +kernel
theorem d_PW_whatIsWrong_38 : decode b_PW_whatIsWrong 38 = .ok (.iconst 3, 1) := by decide +kernel
theorem d_PW_whatIsWrong_39 : decode b_PW_whatIsWrong 39 = .ok (.iload_n 3, 1) := by decide +kernel
theorem d_PW_whatIsWrong_40 : decode b_PW_whatIsWrong 40 = .ok (.iadd, 1) := by decide +kernel
theorem d_PW_whatIsWrong_41 : decode b_PW_whatIsWrong 41 = .ok (.ireturn, 1) := by decide +kernel
theorem d_PW_whatIsWrong_42 : decode b_PW_whatIsWrong 42 = .ok (.iinc 3 (1), 3) := by decide +kernel
theorem d_PW_whatIsWrong_45 : decode b_PW_whatIsWrong 45 = .ok (.goto (-21), 3) := by decide +kernel
theorem d_PW_whatIsWrong_48 : decode b_PW_whatIsWrong 48 = .ok (.iconst 0, 1) := by decide +kernel
theorem d_PW_whatIsWrong_49 : decode b_PW_whatIsWrong 49 = .ok (.ireturn, 1) := by decide +kernel
theorem d_PW_digest_0 : decode b_PW_digest 0 = .ok (.iload_n 0, 1) := by decide +kernel
theorem d_PW_digest_1 : decode b_PW_digest 1 = .ok (.iload_n 1, 1) := by decide +kernel
theorem d_PW_digest_2 : decode b_PW_digest 2 = .ok (.invokestatic 28, 3) := by decide +kernel
theorem d_PW_digest_5 : decode b_PW_digest 5 = .ok (.ireturn, 1) := by decide +kernel
theorem d_Sg_walk_0 : decode b_Sg_walk 0 = .ok (.iload_n 0, 1) := by decide +kernel
theorem d_Sg_walk_1 : decode b_Sg_walk 1 = .ok (.istore 4, 2) := by decide +kernel
theorem d_Sg_walk_3 : decode b_Sg_walk 3 = .ok (.iload_n 2, 1) := by decide +kernel
theorem d_Sg_walk_4 : decode b_Sg_walk 4 = .ok (.istore 5, 2) := by decide +kernel
theorem d_Sg_walk_6 : decode b_Sg_walk 6 = .ok (.iload 5, 2) := by decide +kernel
theorem d_Sg_walk_8 : decode b_Sg_walk 8 = .ok (.iload_n 3, 1) := by decide +kernel
theorem d_Sg_walk_9 : decode b_Sg_walk 9 = .ok (.if_icmp .ge (23), 3) := by decide +kernel
theorem d_Sg_walk_12 : decode b_Sg_walk 12 = .ok (.iload 4, 2) := by decide +kernel
theorem d_Sg_walk_14 : decode b_Sg_walk 14 = .ok (.bipush 16, 2) := by decide +kernel
theorem d_Sg_walk_16 : decode b_Sg_walk 16 = .ok (.iload_n 1, 1) := by decide +kernel
theorem d_Sg_walk_17 : decode b_Sg_walk 17 = .ok (.imul, 1) := by decide +kernel
theorem d_Sg_walk_18 : decode b_Sg_walk 18 = .ok (.iload 5, 2) := by decide +kernel
theorem d_Sg_walk_20 : decode b_Sg_walk 20 = .ok (.iadd, 1) := by decide +kernel
theorem d_Sg_walk_21 : decode b_Sg_walk 21 = .ok (.invokestatic 7, 3) := by decide +kernel
theorem d_Sg_walk_24 : decode b_Sg_walk 24 = .ok (.istore 4, 2) := by decide +kernel
theorem d_Sg_walk_26 : decode b_Sg_walk 26 = .ok (.iinc 5 (1), 3) := by decide +kernel
theorem d_Sg_walk_29 : decode b_Sg_walk 29 = .ok (.goto (-23), 3) := by decide +kernel
theorem d_Sg_walk_32 : decode b_Sg_walk 32 = .ok (.iload 4, 2) := by decide +kernel
theorem d_Sg_walk_34 : decode b_Sg_walk 34 = .ok (.ireturn, 1) := by decide +kernel
theorem d_Sg_message_0 : decode b_Sg_message 0 = .ok (.bipush 17, 2) := by decide +kernel
theorem d_Sg_message_2 : decode b_Sg_message 2 = .ok (.istore_n 2, 1) := by decide +kernel
theorem d_Sg_message_3 : decode b_Sg_message 3 = .ok (.iconst 0, 1) := by decide +kernel
theorem d_Sg_message_4 : decode b_Sg_message 4 = .ok (.istore_n 3, 1) := by decide +kernel
theorem d_Sg_message_5 : decode b_Sg_message 5 = .ok (.iload_n 3, 1) := by decide +kernel
theorem d_Sg_message_6 : decode b_Sg_message 6 = .ok (.iconst 4, 1) := by decide +kernel
theorem d_Sg_message_7 : decode b_Sg_message 7 = .ok (.if_icmp .ge (19), 3) := by decide +kernel
theorem d_Sg_message_10 : decode b_Sg_message 10 = .ok (.iload_n 2, 1) := by decide +kernel
theorem d_Sg_message_11 : decode b_Sg_message 11 = .ok (.aload_n 0, 1) := by decide +kernel
theorem d_Sg_message_12 : decode b_Sg_message 12 = .ok (.iload_n 1, 1) := by decide +kernel
theorem d_Sg_message_13 : decode b_Sg_message 13 = .ok (.iload_n 3, 1) := by decide +kernel
theorem d_Sg_message_14 : decode b_Sg_message 14 = .ok (.iadd, 1) := by decide +kernel
theorem d_Sg_message_15 : decode b_Sg_message 15 = .ok (.iaload, 1) := by decide +kernel
theorem d_Sg_message_16 : decode b_Sg_message 16 = .ok (.invokestatic 7, 3) := by decide +kernel
theorem d_Sg_message_19 : decode b_Sg_message 19 = .ok (.istore_n 2, 1) := by decide +kernel
theorem d_Sg_message_20 : decode b_Sg_message 20 = .ok (.iinc 3 (1), 3) := by decide +kernel
theorem d_Sg_message_23 : decode b_Sg_message 23 = .ok (.goto (-18), 3) := by decide +kernel
theorem d_Sg_message_26 : decode b_Sg_message 26 = .ok (.iload_n 2, 1) := by decide +kernel
theorem d_Sg_message_27 : decode b_Sg_message 27 = .ok (.ireturn, 1) := by decide +kernel
theorem d_Sg_digit_0 : decode b_Sg_digit 0 = .ok (.iload_n 1, 1) := by decide +kernel
theorem d_Sg_digit_1 : decode b_Sg_digit 1 = .ok (.iconst 4, 1) := by decide +kernel
theorem d_Sg_digit_2 : decode b_Sg_digit 2 = .ok (.if_icmp .ge (12), 3) := by decide +kernel
theorem d_Sg_digit_5 : decode b_Sg_digit 5 = .ok (.iload_n 0, 1) := by decide +kernel
theorem d_Sg_digit_6 : decode b_Sg_digit 6 = .ok (.iconst 4, 1) := by decide +kernel
theorem d_Sg_digit_7 : decode b_Sg_digit 7 = .ok (.iload_n 1, 1) := by decide +kernel
theorem d_Sg_digit_8 : decode b_Sg_digit 8 = .ok (.imul, 1) := by decide +kernel
theorem d_Sg_digit_9 : decode b_Sg_digit 9 = .ok (.iushr, 1) := by decide +kernel
theorem d_Sg_digit_10 : decode b_Sg_digit 10 = .ok (.bipush 15, 2) := by decide +kernel
theorem d_Sg_digit_12 : decode b_Sg_digit 12 = .ok (.iand, 1) := by decide +kernel
theorem d_Sg_digit_13 : decode b_Sg_digit 13 = .ok (.ireturn, 1) := by decide +kernel
theorem d_Sg_digit_14 : decode b_Sg_digit 14 = .ok (.bipush 60, 2) := by decide +kernel
theorem d_Sg_digit_16 : decode b_Sg_digit 16 = .ok (.istore_n 2, 1) := by decide +kernel
theorem d_Sg_digit_17 : decode b_Sg_digit 17 = .ok (.iconst 0, 1) := by decide +kernel
theorem d_Sg_digit_18 : decode b_Sg_digit 18 = .ok (.istore_n 3, 1) := by decide +kernel
theorem d_Sg_digit_19 : decode b_Sg_digit 19 = .ok (.iload_n 3, 1) := by decide +kernel
theorem d_Sg_digit_20 : decode b_Sg_digit 20 = .ok (.iconst 4, 1) := by decide +kernel
theorem d_Sg_digit_21 : decode b_Sg_digit 21 = .ok (.if_icmp .ge (20), 3) := by decide +kernel
theorem d_Sg_digit_24 : decode b_Sg_digit 24 = .ok (.iload_n 2, 1) := by decide +kernel
theorem d_Sg_digit_25 : decode b_Sg_digit 25 = .ok (.iload_n 0, 1) := by decide +kernel
theorem d_Sg_digit_26 : decode b_Sg_digit 26 = .ok (.iconst 4, 1) := by decide +kernel
theorem d_Sg_digit_27 : decode b_Sg_digit 27 = .ok (.iload_n 3, 1) := by decide +kernel
theorem d_Sg_digit_28 : decode b_Sg_digit 28 = .ok (.imul, 1) := by decide +kernel
theorem d_Sg_digit_29 : decode b_Sg_digit 29 = .ok (.iushr, 1) := by decide +kernel
theorem d_Sg_digit_30 : decode b_Sg_digit 30 = .ok (.bipush 15, 2) := by decide +kernel
theorem d_Sg_digit_32 : decode b_Sg_digit 32 = .ok (.iand, 1) := by decide +kernel
theorem d_Sg_digit_33 : decode b_Sg_digit 33 = .ok (.isub, 1) := by decide +kernel
theorem d_Sg_digit_34 : decode b_Sg_digit 34 = .ok (.istore_n 2, 1) := by decide +kernel
theorem d_Sg_digit_35 : decode b_Sg_digit 35 = .ok (.iinc 3 (1), 3) := by decide +kernel
theorem d_Sg_digit_38 : decode b_Sg_digit 38 = .ok (.goto (-19), 3) := by decide +kernel
theorem d_Sg_digit_41 : decode b_Sg_digit 41 = .ok (.iload_n 1, 1) := by decide +kernel
theorem d_Sg_digit_42 : decode b_Sg_digit 42 = .ok (.iconst 4, 1) := by decide +kernel
theorem d_Sg_digit_43 : decode b_Sg_digit 43 = .ok (.if_icmp .ne (10), 3) := by decide +kernel
theorem d_Sg_digit_46 : decode b_Sg_digit 46 = .ok (.iload_n 2, 1) := by decide +kernel
theorem d_Sg_digit_47 : decode b_Sg_digit 47 = .ok (.bipush 15, 2) := by decide +kernel
theorem d_Sg_digit_49 : decode b_Sg_digit 49 = .ok (.iand, 1) := by decide +kernel
theorem d_Sg_digit_50 : decode b_Sg_digit 50 = .ok (.goto (6), 3) := by decide +kernel
theorem d_Sg_digit_53 : decode b_Sg_digit 53 = .ok (.iload_n 2, 1) := by decide +kernel
theorem d_Sg_digit_54 : decode b_Sg_digit 54 = .ok (.iconst 4, 1) := by decide +kernel
theorem d_Sg_digit_55 : decode b_Sg_digit 55 = .ok (.iushr, 1) := by decide +kernel
theorem d_Sg_digit_56 : decode b_Sg_digit 56 = .ok (.ireturn, 1) := by decide +kernel
theorem d_Sg_above_0 : decode b_Sg_above 0 = .ok (.iload_n 0, 1) := by decide +kernel
theorem d_Sg_above_1 : decode b_Sg_above 1 = .ok (.iload_n 1, 1) := by decide +kernel
theorem d_Sg_above_2 : decode b_Sg_above 2 = .ok (.invokestatic 7, 3) := by decide +kernel
theorem d_Sg_above_5 : decode b_Sg_above 5 = .ok (.iload_n 2, 1) := by decide +kernel
theorem d_Sg_above_6 : decode b_Sg_above 6 = .ok (.invokestatic 7, 3) := by decide +kernel
theorem d_Sg_above_9 : decode b_Sg_above 9 = .ok (.ireturn, 1) := by decide +kernel
theorem d_Sg_isSigned_0 : decode b_Sg_isSigned 0 = .ok (.aload_n 0, 1) := by decide +kernel
theorem d_Sg_isSigned_1 : decode b_Sg_isSigned 1 = .ok (.iload_n 1, 1) := by decide +kernel
theorem d_Sg_isSigned_2 : decode b_Sg_isSigned 2 = .ok (.iconst 4, 1) := by decide +kernel
theorem d_Sg_isSigned_3 : decode b_Sg_isSigned 3 = .ok (.iadd, 1) := by decide +kernel
theorem d_Sg_isSigned_4 : decode b_Sg_isSigned 4 = .ok (.iaload, 1) := by decide +kernel
theorem d_Sg_isSigned_5 : decode b_Sg_isSigned 5 = .ok (.istore_n 3, 1) := by decide +kernel
theorem d_Sg_isSigned_6 : decode b_Sg_isSigned 6 = .ok (.iload_n 3, 1) := by decide +kernel
theorem d_Sg_isSigned_7 : decode b_Sg_isSigned 7 = .ok (.ifCond .lt (28), 3) := by decide +kernel
theorem d_Sg_isSigned_10 : decode b_Sg_isSigned 10 = .ok (.iload_n 3, 1) := by decide +kernel
theorem d_Sg_isSigned_11 : decode b_Sg_isSigned 11 = .ok (.bipush 8, 2) := by decide +kernel
theorem d_Sg_isSigned_13 : decode b_Sg_isSigned 13 = .ok (.if_icmp .ge (22), 3) := by decide +kernel
theorem d_Sg_isSigned_16 : decode b_Sg_isSigned 16 = .ok (.aload_n 0, 1) := by decide +kernel
theorem d_Sg_isSigned_17 : decode b_Sg_isSigned 17 = .ok (.iload_n 1, 1) := by decide +kernel
theorem d_Sg_isSigned_18 : decode b_Sg_isSigned 18 = .ok (.aload_n 0, 1) := by decide +kernel
theorem d_Sg_isSigned_19 : decode b_Sg_isSigned 19 = .ok (.iload_n 1, 1) := by decide +kernel
theorem d_Sg_isSigned_20 : decode b_Sg_isSigned 20 = .ok (.iload_n 3, 1) := by decide +kernel
theorem d_Sg_isSigned_21 : decode b_Sg_isSigned 21 = .ok (.invokestatic 17, 3) := by decide +kernel
theorem d_Sg_isSigned_24 : decode b_Sg_isSigned 24 = .ok (.invokestatic 21, 3) := by decide +kernel
theorem d_Sg_isSigned_27 : decode b_Sg_isSigned 27 = .ok (.iload_n 2, 1) := by decide +kernel
theorem d_Sg_isSigned_28 : decode b_Sg_isSigned 28 = .ok (.if_icmp .ne (7), 3) := by decide +kernel
theorem d_Sg_isSigned_31 : decode b_Sg_isSigned 31 = .ok (.iconst 1, 1) := by decide +kernel
theorem d_Sg_isSigned_32 : decode b_Sg_isSigned 32 = .ok (.goto (4), 3) := by decide +kernel
theorem d_Sg_isSigned_35 : decode b_Sg_isSigned 35 = .ok (.iconst 0, 1) := by decide +kernel
theorem d_Sg_isSigned_36 : decode b_Sg_isSigned 36 = .ok (.ireturn, 1) := by decide +kernel
theorem d_Sg_top_0 : decode b_Sg_top 0 = .ok (.bipush 8, 2) := by decide +kernel
theorem d_Sg_top_2 : decode b_Sg_top 2 = .ok (.aload_n 0, 1) := by decide +kernel
theorem d_Sg_top_3 : decode b_Sg_top 3 = .ok (.iload_n 1, 1) := by decide +kernel
theorem d_Sg_top_4 : decode b_Sg_top 4 = .ok (.iconst 4, 1) := by decide +kernel
theorem d_Sg_top_5 : decode b_Sg_top 5 = .ok (.iadd, 1) := by decide +kernel
theorem d_Sg_top_6 : decode b_Sg_top 6 = .ok (.iaload, 1) := by decide +kernel
theorem d_Sg_top_7 : decode b_Sg_top 7 = .ok (.iadd, 1) := by decide +kernel
theorem d_Sg_top_8 : decode b_Sg_top 8 = .ok (.istore_n 3, 1) := by decide +kernel
theorem d_Sg_top_9 : decode b_Sg_top 9 = .ok (.iload_n 2, 1) := by decide +kernel
theorem d_Sg_top_10 : decode b_Sg_top 10 = .ok (.istore 4, 2) := by decide +kernel
theorem d_Sg_top_12 : decode b_Sg_top 12 = .ok (.iconst 0, 1) := by decide +kernel
theorem d_Sg_top_13 : decode b_Sg_top 13 = .ok (.istore 5, 2) := by decide +kernel
theorem d_Sg_top_15 : decode b_Sg_top 15 = .ok (.iload 5, 2) := by decide +kernel
theorem d_Sg_top_17 : decode b_Sg_top 17 = .ok (.iconst 3, 1) := by decide +kernel
theorem d_Sg_top_18 : decode b_Sg_top 18 = .ok (.if_icmp .ge (63), 3) := by decide +kernel
theorem d_Sg_top_21 : decode b_Sg_top 21 = .ok (.aload_n 0, 1) := by decide +kernel
theorem d_Sg_top_22 : decode b_Sg_top 22 = .ok (.iload_n 1, 1) := by decide +kernel
theorem d_Sg_top_23 : decode b_Sg_top 23 = .ok (.bipush 11, 2) := by decide +kernel
theorem d_Sg_top_25 : decode b_Sg_top 25 = .ok (.iadd, 1) := by decide +kernel
theorem d_Sg_top_26 : decode b_Sg_top 26 = .ok (.iload 5, 2) := by decide +kernel
theorem d_Sg_top_28 : decode b_Sg_top 28 = .ok (.iadd, 1) := by decide +kernel
theorem d_Sg_top_29 : decode b_Sg_top 29 = .ok (.iaload, 1) := by decide +kernel
theorem d_Sg_top_30 : decode b_Sg_top 30 = .ok (.istore 6, 2) := by decide +kernel
theorem d_Sg_top_32 : decode b_Sg_top 32 = .ok (.iload_n 3, 1) := by decide +kernel
theorem d_Sg_top_33 : decode b_Sg_top 33 = .ok (.iconst 2, 1) := by decide +kernel
theorem d_Sg_top_34 : decode b_Sg_top 34 = .ok (.irem, 1) := by decide +kernel
theorem d_Sg_top_35 : decode b_Sg_top 35 = .ok (.ifCond .ne (7), 3) := by decide +kernel
theorem d_Sg_top_38 : decode b_Sg_top 38 = .ok (.iconst 1, 1) := by decide +kernel
theorem d_Sg_top_39 : decode b_Sg_top 39 = .ok (.goto (4), 3) := by decide +kernel
theorem d_Sg_top_42 : decode b_Sg_top 42 = .ok (.iconst 0, 1) := by decide +kernel
theorem d_Sg_top_43 : decode b_Sg_top 43 = .ok (.istore 7, 2) := by decide +kernel
theorem d_Sg_top_45 : decode b_Sg_top 45 = .ok (.iload_n 3, 1) := by decide +kernel
theorem d_Sg_top_46 : decode b_Sg_top 46 = .ok (.iconst 2, 1) := by decide +kernel
theorem d_Sg_top_47 : decode b_Sg_top 47 = .ok (.idiv, 1) := by decide +kernel
theorem d_Sg_top_48 : decode b_Sg_top 48 = .ok (.istore_n 3, 1) := by decide +kernel
theorem d_Sg_top_49 : decode b_Sg_top 49 = .ok (.iload 7, 2) := by decide +kernel
theorem d_Sg_top_51 : decode b_Sg_top 51 = .ok (.ifCond .eq (14), 3) := by decide +kernel
theorem d_Sg_top_54 : decode b_Sg_top 54 = .ok (.iload 4, 2) := by decide +kernel
theorem d_Sg_top_56 : decode b_Sg_top 56 = .ok (.iload 6, 2) := by decide +kernel
theorem d_Sg_top_58 : decode b_Sg_top 58 = .ok (.iload_n 3, 1) := by decide +kernel
theorem d_Sg_top_59 : decode b_Sg_top 59 = .ok (.invokestatic 24, 3) := by decide +kernel
theorem d_Sg_top_62 : decode b_Sg_top 62 = .ok (.goto (11), 3) := by decide +kernel
theorem d_Sg_top_65 : decode b_Sg_top 65 = .ok (.iload 6, 2) := by decide +kernel
theorem d_Sg_top_67 : decode b_Sg_top 67 = .ok (.iload 4, 2) := by decide +kernel
theorem d_Sg_top_69 : decode b_Sg_top 69 = .ok (.iload_n 3, 1) := by decide +kernel
theorem d_Sg_top_70 : decode b_Sg_top 70 = .ok (.invokestatic 24, 3) := by decide +kernel
theorem d_Sg_top_73 : decode b_Sg_top 73 = .ok (.istore 4, 2) := by decide +kernel
theorem d_Sg_top_75 : decode b_Sg_top 75 = .ok (.iinc 5 (1), 3) := by decide +kernel
theorem d_Sg_top_78 : decode b_Sg_top 78 = .ok (.goto (-63), 3) := by decide +kernel
theorem d_Sg_top_81 : decode b_Sg_top 81 = .ok (.iload 4, 2) := by decide +kernel
theorem d_Sg_top_83 : decode b_Sg_top 83 = .ok (.ireturn, 1) := by decide +kernel
theorem d_Sg_leaf_0 : decode b_Sg_leaf 0 = .ok (.aload_n 0, 1) := by decide +kernel
theorem d_Sg_leaf_1 : decode b_Sg_leaf 1 = .ok (.iload_n 1, 1) := by decide +kernel
theorem d_Sg_leaf_2 : decode b_Sg_leaf 2 = .ok (.invokestatic 28, 3) := by decide +kernel
theorem d_Sg_leaf_5 : decode b_Sg_leaf 5 = .ok (.istore_n 3, 1) := by decide +kernel
theorem d_Sg_leaf_6 : decode b_Sg_leaf 6 = .ok (.iload_n 2, 1) := by decide +kernel
theorem d_Sg_leaf_7 : decode b_Sg_leaf 7 = .ok (.istore 4, 2) := by decide +kernel
theorem d_Sg_leaf_9 : decode b_Sg_leaf 9 = .ok (.iconst 0, 1) := by decide +kernel
theorem d_Sg_leaf_10 : decode b_Sg_leaf 10 = .ok (.istore 5, 2) := by decide +kernel
theorem d_Sg_leaf_12 : decode b_Sg_leaf 12 = .ok (.iload 5, 2) := by decide +kernel
theorem d_Sg_leaf_14 : decode b_Sg_leaf 14 = .ok (.bipush 6, 2) := by decide +kernel
theorem d_Sg_leaf_16 : decode b_Sg_leaf 16 = .ok (.if_icmp .ge (37), 3) := by decide +kernel
theorem d_Sg_leaf_19 : decode b_Sg_leaf 19 = .ok (.iload 4, 2) := by decide +kernel
theorem d_Sg_leaf_21 : decode b_Sg_leaf 21 = .ok (.aload_n 0, 1) := by decide +kernel
theorem d_Sg_leaf_22 : decode b_Sg_leaf 22 = .ok (.iload_n 1, 1) := by decide +kernel
theorem d_Sg_leaf_23 : decode b_Sg_leaf 23 = .ok (.iconst 5, 1) := by decide +kernel
theorem d_Sg_leaf_24 : decode b_Sg_leaf 24 = .ok (.iadd, 1) := by decide +kernel
theorem d_Sg_leaf_25 : decode b_Sg_leaf 25 = .ok (.iload 5, 2) := by decide +kernel
theorem d_Sg_leaf_27 : decode b_Sg_leaf 27 = .ok (.iadd, 1) := by decide +kernel
theorem d_Sg_leaf_28 : decode b_Sg_leaf 28 = .ok (.iaload, 1) := by decide +kernel
theorem d_Sg_leaf_29 : decode b_Sg_leaf 29 = .ok (.iload 5, 2) := by decide +kernel
theorem d_Sg_leaf_31 : decode b_Sg_leaf 31 = .ok (.iload_n 3, 1) := by decide +kernel
theorem d_Sg_leaf_32 : decode b_Sg_leaf 32 = .ok (.iload 5, 2) := by decide +kernel
theorem d_Sg_leaf_34 : decode b_Sg_leaf 34 = .ok (.invokestatic 32, 3) := by decide +kernel
theorem d_Sg_leaf_37 : decode b_Sg_leaf 37 = .ok (.bipush 15, 2) := by decide +kernel
theorem d_Sg_leaf_39 : decode b_Sg_leaf 39 = .ok (.invokestatic 35, 3) := by decide +kernel
theorem d_Sg_leaf_42 : decode b_Sg_leaf 42 = .ok (.invokestatic 7, 3) := by decide +kernel
theorem d_Sg_leaf_45 : decode b_Sg_leaf 45 = .ok (.istore 4, 2) := by decide +kernel
theorem d_Sg_leaf_47 : decode b_Sg_leaf 47 = .ok (.iinc 5 (1), 3) := by decide +kernel
theorem d_Sg_leaf_50 : decode b_Sg_leaf 50 = .ok (.goto (-38), 3) := by decide +kernel
theorem d_Sg_leaf_53 : decode b_Sg_leaf 53 = .ok (.iload 4, 2) := by decide +kernel
theorem d_Sg_leaf_55 : decode b_Sg_leaf 55 = .ok (.ireturn, 1) := by decide +kernel
theorem d_Tb_homeIn_0 : decode b_Tb_homeIn 0 = .ok (.iload_n 0, 1) := by decide +kernel
theorem d_Tb_homeIn_1 : decode b_Tb_homeIn 1 = .ok (.iconst 1, 1) := by decide +kernel
theorem d_Tb_homeIn_2 : decode b_Tb_homeIn 2 = .ok (.iand, 1) := by decide +kernel
theorem d_Tb_homeIn_3 : decode b_Tb_homeIn 3 = .ok (.ireturn, 1) := by decide +kernel
theorem d_Tb_stateIn_0 : decode b_Tb_stateIn 0 = .ok (.iload_n 0, 1) := by decide +kernel
theorem d_Tb_stateIn_1 : decode b_Tb_stateIn 1 = .ok (.iload_n 1, 1) := by decide +kernel
theorem d_Tb_stateIn_2 : decode b_Tb_stateIn 2 = .ok (.invokestatic 9, 3) := by decide +kernel
theorem d_Tb_stateIn_5 : decode b_Tb_stateIn 5 = .ok (.iushr, 1) := by decide +kernel
theorem d_Tb_stateIn_6 : decode b_Tb_stateIn 6 = .ok (.iconst 3, 1) := by decide +kernel
theorem d_Tb_stateIn_7 : decode b_Tb_stateIn 7 = .ok (.iand, 1) := by decide +kernel
theorem d_Tb_stateIn_8 : decode b_Tb_stateIn 8 = .ok (.ireturn, 1) := by decide +kernel
theorem d_Tb_withHome_0 : decode b_Tb_withHome 0 = .ok (.iload_n 0, 1) := by decide +kernel
theorem d_Tb_withHome_1 : decode b_Tb_withHome 1 = .ok (.bipush (-2), 2) := by decide +kernel
theorem d_Tb_withHome_3 : decode b_Tb_withHome 3 = .ok (.iand, 1) := by decide +kernel
theorem d_Tb_withHome_4 : decode b_Tb_withHome 4 = .ok (.iload_n 1, 1) := by decide +kernel
theorem d_Tb_withHome_5 : decode b_Tb_withHome 5 = .ok (.ior, 1) := by decide +kernel
theorem d_Tb_withHome_6 : decode b_Tb_withHome 6 = .ok (.ireturn, 1) := by decide +kernel
theorem d_Tb_withState_0 : decode b_Tb_withState 0 = .ok (.iload_n 0, 1) := by decide +kernel
theorem d_Tb_withState_1 : decode b_Tb_withState 1 = .ok (.iconst 3, 1) := by decide +kernel
theorem d_Tb_withState_2 : decode b_Tb_withState 2 = .ok (.iload_n 1, 1) := by decide +kernel
theorem d_Tb_withState_3 : decode b_Tb_withState 3 = .ok (.invokestatic 9, 3) := by decide +kernel
theorem d_Tb_withState_6 : decode b_Tb_withState 6 = .ok (.ishl, 1) := by decide +kernel
theorem d_Tb_withState_7 : decode b_Tb_withState 7 = .ok (.iconst (-1), 1) := by decide +kernel
theorem d_Tb_withState_8 : decode b_Tb_withState 8 = .ok (.ixor, 1) := by decide +kernel
theorem d_Tb_withState_9 : decode b_Tb_withState 9 = .ok (.iand, 1) := by decide +kernel
theorem d_Tb_withState_10 : decode b_Tb_withState 10 = .ok (.iload_n 2, 1) := by decide +kernel
theorem d_Tb_withState_11 : decode b_Tb_withState 11 = .ok (.iload_n 1, 1) := by decide +kernel
theorem d_Tb_withState_12 : decode b_Tb_withState 12 = .ok (.invokestatic 9, 3) := by decide +kernel
theorem d_Tb_withState_15 : decode b_Tb_withState 15 = .ok (.ishl, 1) := by decide +kernel
theorem d_Tb_withState_16 : decode b_Tb_withState 16 = .ok (.ior, 1) := by decide +kernel
theorem d_Tb_withState_17 : decode b_Tb_withState 17 = .ok (.ireturn, 1) := by decide +kernel
theorem d_Tb_trialIn_0 : decode b_Tb_trialIn 0 = .ok (.iload_n 0, 1) := by decide +kernel
theorem d_Tb_trialIn_1 : decode b_Tb_trialIn 1 = .ok (.invokestatic 15, 3) := by decide +kernel
theorem d_Tb_trialIn_4 : decode b_Tb_trialIn 4 = .ok (.istore_n 1, 1) := by decide +kernel
theorem d_Tb_trialIn_5 : decode b_Tb_trialIn 5 = .ok (.iload_n 0, 1) := by decide +kernel
theorem d_Tb_trialIn_6 : decode b_Tb_trialIn 6 = .ok (.iconst 1, 1) := by decide +kernel
theorem d_Tb_trialIn_7 : decode b_Tb_trialIn 7 = .ok (.iload_n 1, 1) := by decide +kernel
theorem d_Tb_trialIn_8 : decode b_Tb_trialIn 8 = .ok (.isub, 1) := by decide +kernel
theorem d_Tb_trialIn_9 : decode b_Tb_trialIn 9 = .ok (.invokestatic 18, 3) := by decide +kernel
theorem d_Tb_trialIn_12 : decode b_Tb_trialIn 12 = .ok (.iconst 2, 1) := by decide +kernel
theorem d_Tb_trialIn_13 : decode b_Tb_trialIn 13 = .ok (.if_icmp .ne (7), 3) := by decide +kernel
theorem d_Tb_trialIn_16 : decode b_Tb_trialIn 16 = .ok (.iconst 1, 1) := by decide +kernel
theorem d_Tb_trialIn_17 : decode b_Tb_trialIn 17 = .ok (.iload_n 1, 1) := by decide +kernel
theorem d_Tb_trialIn_18 : decode b_Tb_trialIn 18 = .ok (.isub, 1) := by decide +kernel
theorem d_Tb_trialIn_19 : decode b_Tb_trialIn 19 = .ok (.ireturn, 1) := by decide +kernel
theorem d_Tb_trialIn_20 : decode b_Tb_trialIn 20 = .ok (.iload_n 0, 1) := by decide +kernel
theorem d_Tb_trialIn_21 : decode b_Tb_trialIn 21 = .ok (.iload_n 1, 1) := by decide +kernel
theorem d_Tb_trialIn_22 : decode b_Tb_trialIn 22 = .ok (.invokestatic 18, 3) := by decide +kernel
theorem d_Tb_trialIn_25 : decode b_Tb_trialIn 25 = .ok (.iconst 2, 1) := by decide +kernel
theorem d_Tb_trialIn_26 : decode b_Tb_trialIn 26 = .ok (.if_icmp .ne (7), 3) := by decide +kernel
theorem d_Tb_trialIn_29 : decode b_Tb_trialIn 29 = .ok (.iload_n 1, 1) := by decide +kernel
theorem d_Tb_trialIn_30 : decode b_Tb_trialIn 30 = .ok (.goto (4), 3) := by decide +kernel
theorem d_Tb_trialIn_33 : decode b_Tb_trialIn 33 = .ok (.iconst (-1), 1) := by decide +kernel
theorem d_Tb_trialIn_34 : decode b_Tb_trialIn 34 = .ok (.ireturn, 1) := by decide +kernel
theorem d_Tb_shift_0 : decode b_Tb_shift 0 = .ok (.iconst 1, 1) := by decide +kernel
theorem d_Tb_shift_1 : decode b_Tb_shift 1 = .ok (.iconst 2, 1) := by decide +kernel
theorem d_Tb_shift_2 : decode b_Tb_shift 2 = .ok (.iload_n 0, 1) := by decide +kernel
theorem d_Tb_shift_3 : decode b_Tb_shift 3 = .ok (.imul, 1) := by decide +kernel
theorem d_Tb_shift_4 : decode b_Tb_shift 4 = .ok (.iadd, 1) := by decide +kernel
theorem d_Tb_shift_5 : decode b_Tb_shift 5 = .ok (.ireturn, 1) := by decide +kernel
theorem d_St_init_0 : decode b_St_init 0 = .ok (.aload_n 0, 1) := by decide +kernel
theorem d_St_init_1 : decode b_St_init 1 = .ok (.invokespecial 3, 3) := by decide +kernel
theorem d_St_init_4 : decode b_St_init 4 = .ok (.aload_n 0, 1) := by decide +kernel
theorem d_St_init_5 : decode b_St_init 5 = .ok (.bipush 40, 2) := by decide +kernel
theorem d_St_init_7 : decode b_St_init 7 = .ok (.newarray .int, 2) := by decide +kernel
theorem d_St_init_9 : decode b_St_init 9 = .ok (.putfield 11, 3) := by decide +kernel
theorem d_St_init_12 : decode b_St_init 12 = .ok (.aload_n 1, 1) := by decide +kernel
theorem d_St_init_13 : decode b_St_init 13 = .ok (.iconst 0, 1) := by decide +kernel
theorem d_St_init_14 : decode b_St_init 14 = .ok (.aload_n 0, 1) := by decide +kernel
theorem d_St_init_15 : decode b_St_init 15 = .ok (.getfield 11, 3) := by decide +kernel
theorem d_St_init_18 : decode b_St_init 18 = .ok (.iconst 0, 1) := by decide +kernel
theorem d_St_init_19 : decode b_St_init 19 = .ok (.bipush 17, 2) := by decide +kernel
theorem d_St_init_21 : decode b_St_init 21 = .ok (.invokestatic 17, 3) := by decide +kernel
theorem d_St_init_24 : decode b_St_init 24 = .ok (.aload_n 0, 1) := by decide +kernel
theorem d_St_init_25 : decode b_St_init 25 = .ok (.getfield 11, 3) := by decide +kernel
theorem d_St_init_28 : decode b_St_init 28 = .ok (.bipush 34, 2) := by decide +kernel
theorem d_St_init_30 : decode b_St_init 30 = .ok (.iconst 1, 1) := by decide +kernel
theorem d_St_init_31 : decode b_St_init 31 = .ok (.iastore, 1) := by decide +kernel
theorem d_St_init_32 : decode b_St_init 32 = .ok (.aload_n 0, 1) := by decide +kernel
theorem d_St_init_33 : decode b_St_init 33 = .ok (.getfield 11, 3) := by decide +kernel
theorem d_St_init_36 : decode b_St_init 36 = .ok (.bipush 35, 2) := by decide +kernel
theorem d_St_init_38 : decode b_St_init 38 = .ok (.bipush 6, 2) := by decide +kernel
theorem d_St_init_40 : decode b_St_init 40 = .ok (.iastore, 1) := by decide +kernel
theorem d_St_init_41 : decode b_St_init 41 = .ok (.aload_n 0, 1) := by decide +kernel
theorem d_St_init_42 : decode b_St_init 42 = .ok (.getfield 11, 3) := by decide +kernel
theorem d_St_init_45 : decode b_St_init 45 = .ok (.bipush 36, 2) := by decide +kernel
theorem d_St_init_47 : decode b_St_init 47 = .ok (.iconst 1, 1) := by decide +kernel
theorem d_St_init_48 : decode b_St_init 48 = .ok (.bipush 6, 2) := by decide +kernel
theorem d_St_init_50 : decode b_St_init 50 = .ok (.invokestatic 23, 3) := by decide +kernel
theorem d_St_init_53 : decode b_St_init 53 = .ok (.iastore, 1) := by decide +kernel
theorem d_St_init_54 : decode b_St_init 54 = .ok (.aload_n 0, 1) := by decide +kernel
theorem d_St_init_55 : decode b_St_init 55 = .ok (.iconst 1, 1) := by decide +kernel
theorem d_St_init_56 : decode b_St_init 56 = .ok (.putfield 27, 3) := by decide +kernel
theorem d_St_init_59 : decode b_St_init 59 = .ok (.aload_n 0, 1) := by decide +kernel
theorem d_St_init_60 : decode b_St_init 60 = .ok (.iconst 0, 1) := by decide +kernel
theorem d_St_init_61 : decode b_St_init 61 = .ok (.putfield 31, 3) := by decide +kernel
theorem d_St_init_64 : decode b_St_init 64 = .ok (.aload_n 0, 1) := by decide +kernel
theorem d_St_init_65 : decode b_St_init 65 = .ok (.iconst (-1), 1) := by decide +kernel
theorem d_St_init_66 : decode b_St_init 66 = .ok (.putfield 34, 3) := by decide +kernel
theorem d_St_init_69 : decode b_St_init 69 = .ok (.return_, 1) := by decide +kernel
theorem d_St_isPlace_0 : decode b_St_isPlace 0 = .ok (.iload_n 0, 1) := by decide +kernel
theorem d_St_isPlace_1 : decode b_St_isPlace 1 = .ok (.ifCond .lt (13), 3) := by decide +kernel
theorem d_St_isPlace_4 : decode b_St_isPlace 4 = .ok (.iload_n 0, 1) := by decide +kernel
theorem d_St_isPlace_5 : decode b_St_isPlace 5 = .ok (.bipush 40, 2) := by decide +kernel
theorem d_St_isPlace_7 : decode b_St_isPlace 7 = .ok (.if_icmp .ge (7), 3) := by decide +kernel
theorem d_St_isPlace_10 : decode b_St_isPlace 10 = .ok (.iconst 1, 1) := by decide +kernel
theorem d_St_isPlace_11 : decode b_St_isPlace 11 = .ok (.goto (4), 3) := by decide +kernel
theorem d_St_isPlace_14 : decode b_St_isPlace 14 = .ok (.iconst 0, 1) := by decide +kernel
theorem d_St_isPlace_15 : decode b_St_isPlace 15 = .ok (.ireturn, 1) := by decide +kernel
theorem d_St_slotPlace_0 : decode b_St_slotPlace 0 = .ok (.iload_n 0, 1) := by decide +kernel
theorem d_St_slotPlace_1 : decode b_St_slotPlace 1 = .ok (.bipush 17, 2) := by decide +kernel
theorem d_St_slotPlace_3 : decode b_St_slotPlace 3 = .ok (.imul, 1) := by decide +kernel
theorem d_St_slotPlace_4 : decode b_St_slotPlace 4 = .ok (.ireturn, 1) := by decide +kernel
theorem d_St_versionIn_0 : decode b_St_versionIn 0 = .ok (.aload_n 0, 1) := by decide +kernel
theorem d_St_versionIn_1 : decode b_St_versionIn 1 = .ok (.getfield 11, 3) := by decide +kernel
theorem d_St_versionIn_4 : decode b_St_versionIn 4 = .ok (.iload_n 1, 1) := by decide +kernel
theorem d_St_versionIn_5 : decode b_St_versionIn 5 = .ok (.invokestatic 37, 3) := by decide +kernel
theorem d_St_versionIn_8 : decode b_St_versionIn 8 = .ok (.iaload, 1) := by decide +kernel
theorem d_St_versionIn_9 : decode b_St_versionIn 9 = .ok (.ireturn, 1) := by decide +kernel
theorem d_St_entry_0 : decode b_St_entry 0 = .ok (.aload_n 0, 1) := by decide +kernel
theorem d_St_entry_1 : decode b_St_entry 1 = .ok (.invokevirtual 41, 3) := by decide +kernel
theorem d_St_entry_4 : decode b_St_entry 4 = .ok (.istore_n 1, 1) := by decide +kernel
theorem d_St_entry_5 : decode b_St_entry 5 = .ok (.iload_n 1, 1) := by decide +kernel
theorem d_St_entry_6 : decode b_St_entry 6 = .ok (.iconst (-1), 1) := by decide +kernel
theorem d_St_entry_7 : decode b_St_entry 7 = .ok (.if_icmp .ne (7), 3) := by decide +kernel
theorem d_St_entry_10 : decode b_St_entry 10 = .ok (.iconst 0, 1) := by decide +kernel
theorem d_St_entry_11 : decode b_St_entry 11 = .ok (.goto (14), 3) := by decide +kernel
theorem d_St_entry_14 : decode b_St_entry 14 = .ok (.aload_n 0, 1) := by decide +kernel
theorem d_St_entry_15 : decode b_St_entry 15 = .ok (.getfield 11, 3) := by decide +kernel
theorem d_St_entry_18 : decode b_St_entry 18 = .ok (.iload_n 1, 1) := by decide +kernel
theorem d_St_entry_19 : decode b_St_entry 19 = .ok (.invokestatic 45, 3) := by decide +kernel
theorem d_St_entry_22 : decode b_St_entry 22 = .ok (.iconst 1, 1) := by decide +kernel
theorem d_St_entry_23 : decode b_St_entry 23 = .ok (.iadd, 1) := by decide +kernel
theorem d_St_entry_24 : decode b_St_entry 24 = .ok (.iaload, 1) := by decide +kernel
theorem d_St_entry_25 : decode b_St_entry 25 = .ok (.ireturn, 1) := by decide +kernel
theorem d_St_writeTable_0 : decode b_St_writeTable 0 = .ok (.aload_n 0, 1) := by decide +kernel
theorem d_St_writeTable_1 : decode b_St_writeTable 1 = .ok (.invokevirtual 41, 3) := by decide +kernel
theorem d_St_writeTable_4 : decode b_St_writeTable 4 = .ok (.istore_n 2, 1) := by decide +kernel
theorem d_St_writeTable_5 : decode b_St_writeTable 5 = .ok (.iload_n 2, 1) := by decide +kernel
theorem d_St_writeTable_6 : decode b_St_writeTable 6 = .ok (.iconst (-1), 1) := by decide +kernel
theorem d_St_writeTable_7 : decode b_St_writeTable 7 = .ok (.if_icmp .ne (7), 3) := by decide +kernel
theorem d_St_writeTable_10 : decode b_St_writeTable 10 = .ok (.iconst 1, 1) := by decide +kernel
theorem d_St_writeTable_11 : decode b_St_writeTable 11 = .ok (.goto (14), 3) := by decide +kernel
theorem d_St_writeTable_14 : decode b_St_writeTable 14 = .ok (.aload_n 0, 1) := by decide +kernel
theorem d_St_writeTable_15 : decode b_St_writeTable 15 = .ok (.getfield 11, 3) := by decide +kernel
theorem d_St_writeTable_18 : decode b_St_writeTable 18 = .ok (.iload_n 2, 1) := by decide +kernel
theorem d_St_writeTable_19 : decode b_St_writeTable 19 = .ok (.invokestatic 45, 3) := by decide +kernel
theorem d_St_writeTable_22 : decode b_St_writeTable 22 = .ok (.iaload, 1) := by decide +kernel
theorem d_St_writeTable_23 : decode b_St_writeTable 23 = .ok (.iconst 1, 1) := by decide +kernel
theorem d_St_writeTable_24 : decode b_St_writeTable 24 = .ok (.iadd, 1) := by decide +kernel
theorem d_St_writeTable_25 : decode b_St_writeTable 25 = .ok (.istore_n 3, 1) := by decide +kernel
theorem d_St_writeTable_26 : decode b_St_writeTable 26 = .ok (.iload_n 2, 1) := by decide +kernel
theorem d_St_writeTable_27 : decode b_St_writeTable 27 = .ok (.ifCond .ne (7), 3) := by decide +kernel
theorem d_St_writeTable_30 : decode b_St_writeTable 30 = .ok (.iconst 1, 1) := by decide +kernel
theorem d_St_writeTable_31 : decode b_St_writeTable 31 = .ok (.goto (4), 3) := by decide +kernel
theorem d_St_writeTable_34 : decode b_St_writeTable 34 = .ok (.iconst 0, 1) := by decide +kernel
theorem d_St_writeTable_35 : decode b_St_writeTable 35 = .ok (.invokestatic 45, 3) := by decide +kernel
theorem d_St_writeTable_38 : decode b_St_writeTable 38 = .ok (.istore 4, 2) := by decide +kernel
theorem d_St_writeTable_40 : decode b_St_writeTable 40 = .ok (.iload_n 1, 1) := by decide +kernel
theorem d_St_writeTable_41 : decode b_St_writeTable 41 = .ok (.bipush 31, 2) := by decide +kernel
theorem d_St_writeTable_43 : decode b_St_writeTable 43 = .ok (.iand, 1) := by decide +kernel
theorem d_St_writeTable_44 : decode b_St_writeTable 44 = .ok (.istore 5, 2) := by decide +kernel
theorem d_St_writeTable_46 : decode b_St_writeTable 46 = .ok (.aload_n 0, 1) := by decide +kernel
theorem d_St_writeTable_47 : decode b_St_writeTable 47 = .ok (.iload 4, 2) := by decide +kernel
theorem d_St_writeTable_49 : decode b_St_writeTable 49 = .ok (.iload_n 3, 1) := by decide +kernel
theorem d_St_writeTable_50 : decode b_St_writeTable 50 = .ok (.invokevirtual 50, 3) := by decide +kernel
theorem d_St_writeTable_53 : decode b_St_writeTable 53 = .ok (.ifCond .eq (37), 3) := by decide +kernel
theorem d_St_writeTable_56 : decode b_St_writeTable 56 = .ok (.aload_n 0, 1) := by decide +kernel
theorem d_St_writeTable_57 : decode b_St_writeTable 57 = .ok (.iload 4, 2) := by decide +kernel
theorem d_St_writeTable_59 : decode b_St_writeTable 59 = .ok (.iconst 1, 1) := by decide +kernel
theorem d_St_writeTable_60 : decode b_St_writeTable 60 = .ok (.iadd, 1) := by decide +kernel
theorem d_St_writeTable_61 : decode b_St_writeTable 61 = .ok (.iload 5, 2) := by decide +kernel
theorem d_St_writeTable_63 : decode b_St_writeTable 63 = .ok (.invokevirtual 50, 3) := by decide +kernel
theorem d_St_writeTable_66 : decode b_St_writeTable 66 = .ok (.ifCond .eq (24), 3) := by decide +kernel
theorem d_St_writeTable_69 : decode b_St_writeTable 69 = .ok (.aload_n 0, 1) := by decide +kernel
theorem d_St_writeTable_70 : decode b_St_writeTable 70 = .ok (.iload 4, 2) := by decide +kernel
theorem d_St_writeTable_72 : decode b_St_writeTable 72 = .ok (.iconst 2, 1) := by decide +kernel
theorem d_St_writeTable_73 : decode b_St_writeTable 73 = .ok (.iadd, 1) := by decide +kernel
theorem d_St_writeTable_74 : decode b_St_writeTable 74 = .ok (.iload_n 3, 1) := by decide +kernel
theorem d_St_writeTable_75 : decode b_St_writeTable 75 = .ok (.iload 5, 2) := by decide +kernel
theorem d_St_writeTable_77 : decode b_St_writeTable 77 = .ok (.invokestatic 23, 3) := by decide +kernel
theorem d_St_writeTable_80 : decode b_St_writeTable 80 = .ok (.invokevirtual 50, 3) := by decide +kernel
theorem d_St_writeTable_83 : decode b_St_writeTable 83 = .ok (.ifCond .eq (7), 3) := by decide +kernel
theorem d_St_writeTable_86 : decode b_St_writeTable 86 = .ok (.iconst 1, 1) := by decide +kernel
theorem d_St_writeTable_87 : decode b_St_writeTable 87 = .ok (.goto (4), 3) := by decide +kernel
theorem d_St_writeTable_90 : decode b_St_writeTable 90 = .ok (.iconst 0, 1) := by decide +kernel
theorem d_St_writeTable_91 : decode b_St_writeTable 91 = .ok (.ireturn, 1) := by decide +kernel
theorem d_St_writePackage_0 : decode b_St_writePackage 0 = .ok (.iload_n 1, 1) := by decide +kernel
theorem d_St_writePackage_1 : decode b_St_writePackage 1 = .ok (.invokestatic 37, 3) := by decide +kernel
theorem d_St_writePackage_4 : decode b_St_writePackage 4 = .ok (.istore 4, 2) := by decide +kernel
theorem d_St_writePackage_6 : decode b_St_writePackage 6 = .ok (.iconst 0, 1) := by decide +kernel
theorem d_St_writePackage_7 : decode b_St_writePackage 7 = .ok (.istore 5, 2) := by decide +kernel
theorem d_St_writePackage_9 : decode b_St_writePackage 9 = .ok (.iload 5, 2) := by decide +kernel
theorem d_St_writePackage_11 : decode b_St_writePackage 11 = .ok (.bipush 17, 2) := by decide +kernel
theorem d_St_writePackage_13 : decode b_St_writePackage 13 = .ok (.if_icmp .ge (29), 3) := by decide +kernel
theorem d_St_writePackage_16 : decode b_St_writePackage 16 = .ok (.aload_n 0, 1) := by decide +kernel
theorem d_St_writePackage_17 : decode b_St_writePackage 17 = .ok (.iload 4, 2) := by decide +kernel
theorem d_St_writePackage_19 : decode b_St_writePackage 19 = .ok (.iload 5, 2) := by decide +kernel
theorem d_St_writePackage_21 : decode b_St_writePackage 21 = .ok (.iadd, 1) := by decide +kernel
theorem d_St_writePackage_22 : decode b_St_writePackage 22 = .ok (.aload_n 2, 1) := by decide +kernel
theorem d_St_writePackage_23 : decode b_St_writePackage 23 = .ok (.iload_n 3, 1) := by decide +kernel
theorem d_St_writePackage_24 : decode b_St_writePackage 24 = .ok (.iload 5, 2) := by decide +kernel
theorem d_St_writePackage_26 : decode b_St_writePackage 26 = .ok (.iadd, 1) := by decide +kernel
theorem d_St_writePackage_27 : decode b_St_writePackage 27 = .ok (.iaload, 1) := by decide +kernel
theorem d_St_writePackage_28 : decode b_St_writePackage 28 = .ok (.invokevirtual 50, 3) := by decide +kernel
theorem d_St_writePackage_31 : decode b_St_writePackage 31 = .ok (.ifCond .ne (5), 3) := by decide +kernel
theorem d_St_writePackage_34 : decode b_St_writePackage 34 = .ok (.iconst 0, 1) := by decide +kernel
theorem d_St_writePackage_35 : decode b_St_writePackage 35 = .ok (.ireturn, 1) := by decide +kernel
theorem d_St_writePackage_36 : decode b_St_writePackage 36 = .ok (.iinc 5 (1), 3) := by decide +kernel
theorem d_St_writePackage_39 : decode b_St_writePackage 39 = .ok (.goto (-30), 3) := by decide +kernel
theorem d_St_writePackage_42 : decode b_St_writePackage 42 = .ok (.iconst 1, 1) := by decide +kernel
theorem d_St_writePackage_43 : decode b_St_writePackage 43 = .ok (.ireturn, 1) := by decide +kernel
theorem d_St_blowUpTo_0 : decode b_St_blowUpTo 0 = .ok (.iload_n 1, 1) := by decide +kernel
theorem d_St_blowUpTo_1 : decode b_St_blowUpTo 1 = .ok (.bipush 32, 2) := by decide +kernel
theorem d_St_blowUpTo_3 : decode b_St_blowUpTo 3 = .ok (.invokestatic 54, 3) := by decide +kernel
theorem d_St_blowUpTo_6 : decode b_St_blowUpTo 6 = .ok (.istore_n 2, 1) := by decide +kernel
theorem d_St_blowUpTo_7 : decode b_St_blowUpTo 7 = .ok (.aload_n 0, 1) := by decide +kernel
theorem d_St_blowUpTo_8 : decode b_St_blowUpTo 8 = .ok (.getfield 27, 3) := by decide +kernel
theorem d_St_blowUpTo_11 : decode b_St_blowUpTo 11 = .ok (.istore_n 3, 1) := by decide +kernel
theorem d_St_blowUpTo_12 : decode b_St_blowUpTo 12 = .ok (.iload_n 3, 1) := by decide +kernel
theorem d_St_blowUpTo_13 : decode b_St_blowUpTo 13 = .ok (.iload_n 2, 1) := by decide +kernel
theorem d_St_blowUpTo_14 : decode b_St_blowUpTo 14 = .ok (.if_icmp .ge (28), 3) := by decide +kernel
theorem d_St_blowUpTo_17 : decode b_St_blowUpTo 17 = .ok (.aload_n 0, 1) := by decide +kernel
theorem d_St_blowUpTo_18 : decode b_St_blowUpTo 18 = .ok (.invokevirtual 59, 3) := by decide +kernel
theorem d_St_blowUpTo_21 : decode b_St_blowUpTo 21 = .ok (.ifCond .ne (5), 3) := by decide +kernel
theorem d_St_blowUpTo_24 : decode b_St_blowUpTo 24 = .ok (.iconst 0, 1) := by decide +kernel
theorem d_St_blowUpTo_25 : decode b_St_blowUpTo 25 = .ok (.ireturn, 1) := by decide +kernel
theorem d_St_blowUpTo_26 : decode b_St_blowUpTo 26 = .ok (.aload_n 0, 1) := by decide +kernel
theorem d_St_blowUpTo_27 : decode b_St_blowUpTo 27 = .ok (.dup, 1) := by decide +kernel
theorem d_St_blowUpTo_28 : decode b_St_blowUpTo 28 = .ok (.getfield 27, 3) := by decide +kernel
theorem d_St_blowUpTo_31 : decode b_St_blowUpTo 31 = .ok (.iconst 1, 1) := by decide +kernel
theorem d_St_blowUpTo_32 : decode b_St_blowUpTo 32 = .ok (.iadd, 1) := by decide +kernel
theorem d_St_blowUpTo_33 : decode b_St_blowUpTo 33 = .ok (.putfield 27, 3) := by decide +kernel
theorem d_St_blowUpTo_36 : decode b_St_blowUpTo 36 = .ok (.iinc 3 (1), 3) := by decide +kernel
theorem d_St_blowUpTo_39 : decode b_St_blowUpTo 39 = .ok (.goto (-27), 3) := by decide +kernel
theorem d_St_blowUpTo_42 : decode b_St_blowUpTo 42 = .ok (.iconst 1, 1) := by decide +kernel
theorem d_St_blowUpTo_43 : decode b_St_blowUpTo 43 = .ok (.ireturn, 1) := by decide +kernel
theorem d_St_put_0 : decode b_St_put 0 = .ok (.aload_n 0, 1) := by decide +kernel
theorem d_St_put_1 : decode b_St_put 1 = .ok (.invokevirtual 59, 3) := by decide +kernel
theorem d_St_put_4 : decode b_St_put 4 = .ok (.ifCond .ne (5), 3) := by decide +kernel
theorem d_St_put_7 : decode b_St_put 7 = .ok (.iconst 0, 1) := by decide +kernel
theorem d_St_put_8 : decode b_St_put 8 = .ok (.ireturn, 1) := by decide +kernel
theorem d_St_put_9 : decode b_St_put 9 = .ok (.aload_n 0, 1) := by decide +kernel
theorem d_St_put_10 : decode b_St_put 10 = .ok (.getfield 11, 3) := by decide +kernel
theorem d_St_put_13 : decode b_St_put 13 = .ok (.iload_n 1, 1) := by decide +kernel
theorem d_St_put_14 : decode b_St_put 14 = .ok (.iload_n 2, 1) := by decide +kernel
theorem d_St_put_15 : decode b_St_put 15 = .ok (.iastore, 1) := by decide +kernel
theorem d_St_put_16 : decode b_St_put 16 = .ok (.iconst 1, 1) := by decide +kernel
theorem d_St_put_17 : decode b_St_put 17 = .ok (.ireturn, 1) := by decide +kernel
theorem d_St_mayWrite_0 : decode b_St_mayWrite 0 = .ok (.aload_n 0, 1) := by decide +kernel
theorem d_St_mayWrite_1 : decode b_St_mayWrite 1 = .ok (.getfield 34, 3) := by decide +kernel
theorem d_St_mayWrite_4 : decode b_St_mayWrite 4 = .ok (.ifCond .ne (10), 3) := by decide +kernel
theorem d_St_mayWrite_7 : decode b_St_mayWrite 7 = .ok (.aload_n 0, 1) := by decide +kernel
theorem d_St_mayWrite_8 : decode b_St_mayWrite 8 = .ok (.iconst (-1), 1) := by decide +kernel
theorem d_St_mayWrite_9 : decode b_St_mayWrite 9 = .ok (.putfield 34, 3) := by decide +kernel
theorem d_St_mayWrite_12 : decode b_St_mayWrite 12 = .ok (.iconst 0, 1) := by decide +kernel
theorem d_St_mayWrite_13 : decode b_St_mayWrite 13 = .ok (.ireturn, 1) := by decide +kernel
theorem d_St_mayWrite_14 : decode b_St_mayWrite 14 = .ok (.aload_n 0, 1) := by decide +kernel
theorem d_St_mayWrite_15 : decode b_St_mayWrite 15 = .ok (.getfield 34, 3) := by decide +kernel
theorem d_St_mayWrite_18 : decode b_St_mayWrite 18 = .ok (.ifCond .le (13), 3) := by decide +kernel
theorem d_St_mayWrite_21 : decode b_St_mayWrite 21 = .ok (.aload_n 0, 1) := by decide +kernel
theorem d_St_mayWrite_22 : decode b_St_mayWrite 22 = .ok (.dup, 1) := by decide +kernel
theorem d_St_mayWrite_23 : decode b_St_mayWrite 23 = .ok (.getfield 34, 3) := by decide +kernel
theorem d_St_mayWrite_26 : decode b_St_mayWrite 26 = .ok (.iconst 1, 1) := by decide +kernel
theorem d_St_mayWrite_27 : decode b_St_mayWrite 27 = .ok (.isub, 1) := by decide +kernel
theorem d_St_mayWrite_28 : decode b_St_mayWrite 28 = .ok (.putfield 34, 3) := by decide +kernel
theorem d_St_mayWrite_31 : decode b_St_mayWrite 31 = .ok (.aload_n 0, 1) := by decide +kernel
theorem d_St_mayWrite_32 : decode b_St_mayWrite 32 = .ok (.dup, 1) := by decide +kernel
theorem d_St_mayWrite_33 : decode b_St_mayWrite 33 = .ok (.getfield 31, 3) := by decide +kernel
theorem d_St_mayWrite_36 : decode b_St_mayWrite 36 = .ok (.iconst 1, 1) := by decide +kernel
theorem d_St_mayWrite_37 : decode b_St_mayWrite 37 = .ok (.iadd, 1) := by decide +kernel
theorem d_St_mayWrite_38 : decode b_St_mayWrite 38 = .ok (.putfield 31, 3) := by decide +kernel
theorem d_St_mayWrite_41 : decode b_St_mayWrite 41 = .ok (.iconst 1, 1) := by decide +kernel
theorem d_St_mayWrite_42 : decode b_St_mayWrite 42 = .ok (.ireturn, 1) := by decide +kernel
theorem d_St_currentRecord_0 : decode b_St_currentRecord 0 = .ok (.aload_n 0, 1) := by decide +kernel
theorem d_St_currentRecord_1 : decode b_St_currentRecord 1 = .ok (.iconst 0, 1) := by decide +kernel
theorem d_St_currentRecord_2 : decode b_St_currentRecord 2 = .ok (.invokevirtual 63, 3) := by decide +kernel
theorem d_St_currentRecord_5 : decode b_St_currentRecord 5 = .ok (.istore_n 1, 1) := by decide +kernel
theorem d_St_currentRecord_6 : decode b_St_currentRecord 6 = .ok (.aload_n 0, 1) := by decide +kernel
theorem d_St_currentRecord_7 : decode b_St_currentRecord 7 = .ok (.iconst 1, 1) := by decide +kernel
theorem d_St_currentRecord_8 : decode b_St_currentRecord 8 = .ok (.invokevirtual 63, 3) := by decide +kernel
theorem d_St_currentRecord_11 : decode b_St_currentRecord 11 = .ok (.istore_n 2, 1) := by decide +kernel
theorem d_St_currentRecord_12 : decode b_St_currentRecord 12 = .ok (.iload_n 1, 1) := by decide +kernel
theorem d_St_currentRecord_13 : decode b_St_currentRecord 13 = .ok (.ifCond .eq (34), 3) := by decide +kernel
theorem d_St_currentRecord_16 : decode b_St_currentRecord 16 = .ok (.iload_n 2, 1) := by decide +kernel
theorem d_St_currentRecord_17 : decode b_St_currentRecord 17 = .ok (.ifCond .eq (30), 3) := by decide +kernel
theorem d_St_currentRecord_20 : decode b_St_currentRecord 20 = .ok (.aload_n 0, 1) := by decide +kernel
theorem d_St_currentRecord_21 : decode b_St_currentRecord 21 = .ok (.getfield 11, 3) := by decide +kernel
theorem d_St_currentRecord_24 : decode b_St_currentRecord 24 = .ok (.iconst 1, 1) := by decide +kernel
theorem d_St_currentRecord_25 : decode b_St_currentRecord 25 = .ok (.invokestatic 45, 3) := by decide +kernel
theorem d_St_currentRecord_28 : decode b_St_currentRecord 28 = .ok (.iaload, 1) := by decide +kernel
theorem d_St_currentRecord_29 : decode b_St_currentRecord 29 = .ok (.aload_n 0, 1) := by decide +kernel
theorem d_St_currentRecord_30 : decode b_St_currentRecord 30 = .ok (.getfield 11, 3) := by decide +kernel
theorem d_St_currentRecord_33 : decode b_St_currentRecord 33 = .ok (.iconst 0, 1) := by decide +kernel
theorem d_St_currentRecord_34 : decode b_St_currentRecord 34 = .ok (.invokestatic 45, 3) := by decide +kernel
theorem d_St_currentRecord_37 : decode b_St_currentRecord 37 = .ok (.iaload, 1) := by decide +kernel
theorem d_St_currentRecord_38 : decode b_St_currentRecord 38 = .ok (.if_icmp .le (7), 3) := by decide +kernel
theorem d_St_currentRecord_41 : decode b_St_currentRecord 41 = .ok (.iconst 1, 1) := by decide +kernel
theorem d_St_currentRecord_42 : decode b_St_currentRecord 42 = .ok (.goto (4), 3) := by decide +kernel
theorem d_St_currentRecord_45 : decode b_St_currentRecord 45 = .ok (.iconst 0, 1) := by decide +kernel
theorem d_St_currentRecord_46 : decode b_St_currentRecord 46 = .ok (.ireturn, 1) := by decide +kernel
theorem d_St_currentRecord_47 : decode b_St_currentRecord 47 = .ok (.iload_n 1, 1) := by decide +kernel
theorem d_St_currentRecord_48 : decode b_St_currentRecord 48 = .ok (.ifCond .eq (5), 3) := by decide +kernel
theorem d_St_currentRecord_51 : decode b_St_currentRecord 51 = .ok (.iconst 0, 1) := by decide +kernel
theorem d_St_currentRecord_52 : decode b_St_currentRecord 52 = .ok (.ireturn, 1) := by decide +kernel
theorem d_St_currentRecord_53 : decode b_St_currentRecord 53 = .ok (.iload_n 2, 1) := by decide +kernel
theorem d_St_currentRecord_54 : decode b_St_currentRecord 54 = .ok (.ifCond .eq (7), 3) := by decide +kernel
theorem d_St_currentRecord_57 : decode b_St_currentRecord 57 = .ok (.iconst 1, 1) := by decide +kernel
theorem d_St_currentRecord_58 : decode b_St_currentRecord 58 = .ok (.goto (4), 3) := by decide +kernel
theorem d_St_currentRecord_61 : decode b_St_currentRecord 61 = .ok (.iconst (-1), 1) := by decide +kernel
theorem d_St_currentRecord_62 : decode b_St_currentRecord 62 = .ok (.ireturn, 1) := by decide +kernel
theorem d_St_isGood_0 : decode b_St_isGood 0 = .ok (.iload_n 1, 1) := by decide +kernel
end
section
theorem d_St_isGood_1 : decode b_St_isGood 1 = .ok (.invokestatic 45, 3) := by decide +kernel
theorem d_St_isGood_4 : decode b_St_isGood 4 = .ok (.istore_n 2, 1) := by decide +kernel
theorem d_St_isGood_5 : decode b_St_isGood 5 = .ok (.aload_n 0, 1) := by decide +kernel
theorem d_St_isGood_6 : decode b_St_isGood 6 = .ok (.getfield 11, 3) := by decide +kernel
theorem d_St_isGood_9 : decode b_St_isGood 9 = .ok (.iload_n 2, 1) := by decide +kernel
theorem d_St_isGood_10 : decode b_St_isGood 10 = .ok (.iconst 2, 1) := by decide +kernel
theorem d_St_isGood_11 : decode b_St_isGood 11 = .ok (.iadd, 1) := by decide +kernel
theorem d_St_isGood_12 : decode b_St_isGood 12 = .ok (.iaload, 1) := by decide +kernel
theorem d_St_isGood_13 : decode b_St_isGood 13 = .ok (.aload_n 0, 1) := by decide +kernel
theorem d_St_isGood_14 : decode b_St_isGood 14 = .ok (.getfield 11, 3) := by decide +kernel
theorem d_St_isGood_17 : decode b_St_isGood 17 = .ok (.iload_n 2, 1) := by decide +kernel
theorem d_St_isGood_18 : decode b_St_isGood 18 = .ok (.iaload, 1) := by decide +kernel
theorem d_St_isGood_19 : decode b_St_isGood 19 = .ok (.aload_n 0, 1) := by decide +kernel
theorem d_St_isGood_20 : decode b_St_isGood 20 = .ok (.getfield 11, 3) := by decide +kernel
theorem d_St_isGood_23 : decode b_St_isGood 23 = .ok (.iload_n 2, 1) := by decide +kernel
theorem d_St_isGood_24 : decode b_St_isGood 24 = .ok (.iconst 1, 1) := by decide +kernel
theorem d_St_isGood_25 : decode b_St_isGood 25 = .ok (.iadd, 1) := by decide +kernel
theorem d_St_isGood_26 : decode b_St_isGood 26 = .ok (.iaload, 1) := by decide +kernel
theorem d_St_isGood_27 : decode b_St_isGood 27 = .ok (.invokestatic 23, 3) := by decide +kernel
theorem d_St_isGood_30 : decode b_St_isGood 30 = .ok (.if_icmp .ne (7), 3) := by decide +kernel
theorem d_St_isGood_33 : decode b_St_isGood 33 = .ok (.iconst 1, 1) := by decide +kernel
theorem d_St_isGood_34 : decode b_St_isGood 34 = .ok (.goto (4), 3) := by decide +kernel
theorem d_St_isGood_37 : decode b_St_isGood 37 = .ok (.iconst 0, 1) := by decide +kernel
theorem d_St_isGood_38 : decode b_St_isGood 38 = .ok (.ireturn, 1) := by decide +kernel
theorem d_St_recordPlace_0 : decode b_St_recordPlace 0 = .ok (.bipush 34, 2) := by decide +kernel
theorem d_St_recordPlace_2 : decode b_St_recordPlace 2 = .ok (.iconst 3, 1) := by decide +kernel
theorem d_St_recordPlace_3 : decode b_St_recordPlace 3 = .ok (.iload_n 0, 1) := by decide +kernel
theorem d_St_recordPlace_4 : decode b_St_recordPlace 4 = .ok (.imul, 1) := by decide +kernel
theorem d_St_recordPlace_5 : decode b_St_recordPlace 5 = .ok (.iadd, 1) := by decide +kernel
theorem d_St_recordPlace_6 : decode b_St_recordPlace 6 = .ok (.ireturn, 1) := by decide +kernel
theorem d_St_check_0 : decode b_St_check 0 = .ok (.iload_n 0, 1) := by decide +kernel
theorem d_St_check_1 : decode b_St_check 1 = .ok (.iload_n 1, 1) := by decide +kernel
theorem d_St_check_2 : decode b_St_check 2 = .ok (.invokestatic 67, 3) := by decide +kernel
theorem d_St_check_5 : decode b_St_check 5 = .ok (.iconst 5, 1) := by decide +kernel
theorem d_St_check_6 : decode b_St_check 6 = .ok (.invokestatic 67, 3) := by decide +kernel
theorem d_St_check_9 : decode b_St_check 9 = .ok (.ireturn, 1) := by decide +kernel
theorem d_Mo_init_0 : decode b_Mo_init 0 = .ok (.aload_n 0, 1) := by decide +kernel
theorem d_Mo_init_1 : decode b_Mo_init 1 = .ok (.invokespecial 1, 3) := by decide +kernel
theorem d_Mo_init_4 : decode b_Mo_init 4 = .ok (.aload_n 0, 1) := by decide +kernel
theorem d_Mo_init_5 : decode b_Mo_init 5 = .ok (.sipush 160, 3) := by decide +kernel
theorem d_Mo_init_8 : decode b_Mo_init 8 = .ok (.newarray .int, 2) := by decide +kernel
theorem d_Mo_init_10 : decode b_Mo_init 10 = .ok (.putfield 7, 3) := by decide +kernel
theorem d_Mo_init_13 : decode b_Mo_init 13 = .ok (.aload_n 0, 1) := by decide +kernel
theorem d_Mo_init_14 : decode b_Mo_init 14 = .ok (.iconst (-1), 1) := by decide +kernel
theorem d_Mo_init_15 : decode b_Mo_init 15 = .ok (.putfield 13, 3) := by decide +kernel
theorem d_Mo_init_18 : decode b_Mo_init 18 = .ok (.aload_n 0, 1) := by decide +kernel
theorem d_Mo_init_19 : decode b_Mo_init 19 = .ok (.iconst (-1), 1) := by decide +kernel
theorem d_Mo_init_20 : decode b_Mo_init 20 = .ok (.putfield 17, 3) := by decide +kernel
theorem d_Mo_init_23 : decode b_Mo_init 23 = .ok (.aload_n 0, 1) := by decide +kernel
theorem d_Mo_init_24 : decode b_Mo_init 24 = .ok (.iconst 3, 1) := by decide +kernel
theorem d_Mo_init_25 : decode b_Mo_init 25 = .ok (.newarray .int, 2) := by decide +kernel
theorem d_Mo_init_27 : decode b_Mo_init 27 = .ok (.putfield 20, 3) := by decide +kernel
theorem d_Mo_init_30 : decode b_Mo_init 30 = .ok (.aload_n 0, 1) := by decide +kernel
theorem d_Mo_init_31 : decode b_Mo_init 31 = .ok (.bipush 6, 2) := by decide +kernel
theorem d_Mo_init_33 : decode b_Mo_init 33 = .ok (.newarray .int, 2) := by decide +kernel
theorem d_Mo_init_35 : decode b_Mo_init 35 = .ok (.putfield 23, 3) := by decide +kernel
theorem d_Mo_init_38 : decode b_Mo_init 38 = .ok (.aload_n 0, 1) := by decide +kernel
theorem d_Mo_init_39 : decode b_Mo_init 39 = .ok (.bipush 6, 2) := by decide +kernel
theorem d_Mo_init_41 : decode b_Mo_init 41 = .ok (.newarray .int, 2) := by decide +kernel
theorem d_Mo_init_43 : decode b_Mo_init 43 = .ok (.putfield 26, 3) := by decide +kernel
theorem d_Mo_init_46 : decode b_Mo_init 46 = .ok (.aload_n 0, 1) := by decide +kernel
theorem d_Mo_init_47 : decode b_Mo_init 47 = .ok (.bipush 16, 2) := by decide +kernel
theorem d_Mo_init_49 : decode b_Mo_init 49 = .ok (.newarray .int, 2) := by decide +kernel
theorem d_Mo_init_51 : decode b_Mo_init 51 = .ok (.putfield 29, 3) := by decide +kernel
theorem d_Mo_init_54 : decode b_Mo_init 54 = .ok (.aload_n 0, 1) := by decide +kernel
theorem d_Mo_init_55 : decode b_Mo_init 55 = .ok (.iload_n 1, 1) := by decide +kernel
theorem d_Mo_init_56 : decode b_Mo_init 56 = .ok (.putfield 32, 3) := by decide +kernel
theorem d_Mo_init_59 : decode b_Mo_init 59 = .ok (.aload_n 0, 1) := by decide +kernel
theorem d_Mo_init_60 : decode b_Mo_init 60 = .ok (.iconst 1, 1) := by decide +kernel
theorem d_Mo_init_61 : decode b_Mo_init 61 = .ok (.putfield 35, 3) := by decide +kernel
theorem d_Mo_init_64 : decode b_Mo_init 64 = .ok (.aload_n 0, 1) := by decide +kernel
theorem d_Mo_init_65 : decode b_Mo_init 65 = .ok (.iconst 0, 1) := by decide +kernel
theorem d_Mo_init_66 : decode b_Mo_init 66 = .ok (.iconst 0, 1) := by decide +kernel
theorem d_Mo_init_67 : decode b_Mo_init 67 = .ok (.iconst 1, 1) := by decide +kernel
theorem d_Mo_init_68 : decode b_Mo_init 68 = .ok (.iload_n 2, 1) := by decide +kernel
theorem d_Mo_init_69 : decode b_Mo_init 69 = .ok (.invokevirtual 38, 3) := by decide +kernel
theorem d_Mo_init_72 : decode b_Mo_init 72 = .ok (.aload_n 0, 1) := by decide +kernel
theorem d_Mo_init_73 : decode b_Mo_init 73 = .ok (.getfield 7, 3) := by decide +kernel
theorem d_Mo_init_76 : decode b_Mo_init 76 = .ok (.bipush 15, 2) := by decide +kernel
theorem d_Mo_init_78 : decode b_Mo_init 78 = .ok (.iload_n 2, 1) := by decide +kernel
theorem d_Mo_init_79 : decode b_Mo_init 79 = .ok (.iconst 1, 1) := by decide +kernel
theorem d_Mo_init_80 : decode b_Mo_init 80 = .ok (.iadd, 1) := by decide +kernel
theorem d_Mo_init_81 : decode b_Mo_init 81 = .ok (.iastore, 1) := by decide +kernel
theorem d_Mo_init_82 : decode b_Mo_init 82 = .ok (.aload_n 0, 1) := by decide +kernel
theorem d_Mo_init_83 : decode b_Mo_init 83 = .ok (.getfield 7, 3) := by decide +kernel
theorem d_Mo_init_86 : decode b_Mo_init 86 = .ok (.bipush 16, 2) := by decide +kernel
theorem d_Mo_init_88 : decode b_Mo_init 88 = .ok (.iload_n 2, 1) := by decide +kernel
theorem d_Mo_init_89 : decode b_Mo_init 89 = .ok (.iconst 2, 1) := by decide +kernel
theorem d_Mo_init_90 : decode b_Mo_init 90 = .ok (.iadd, 1) := by decide +kernel
theorem d_Mo_init_91 : decode b_Mo_init 91 = .ok (.iastore, 1) := by decide +kernel
theorem d_Mo_init_92 : decode b_Mo_init 92 = .ok (.aload_n 0, 1) := by decide +kernel
theorem d_Mo_init_93 : decode b_Mo_init 93 = .ok (.iconst 0, 1) := by decide +kernel
theorem d_Mo_init_94 : decode b_Mo_init 94 = .ok (.iconst 0, 1) := by decide +kernel
theorem d_Mo_init_95 : decode b_Mo_init 95 = .ok (.invokevirtual 42, 3) := by decide +kernel
theorem d_Mo_init_98 : decode b_Mo_init 98 = .ok (.aload_n 0, 1) := by decide +kernel
theorem d_Mo_init_99 : decode b_Mo_init 99 = .ok (.getfield 7, 3) := by decide +kernel
theorem d_Mo_init_102 : decode b_Mo_init 102 = .ok (.bipush 34, 2) := by decide +kernel
theorem d_Mo_init_104 : decode b_Mo_init 104 = .ok (.iconst 1, 1) := by decide +kernel
theorem d_Mo_init_105 : decode b_Mo_init 105 = .ok (.iastore, 1) := by decide +kernel
theorem d_Mo_init_106 : decode b_Mo_init 106 = .ok (.aload_n 0, 1) := by decide +kernel
theorem d_Mo_init_107 : decode b_Mo_init 107 = .ok (.getfield 7, 3) := by decide +kernel
theorem d_Mo_init_110 : decode b_Mo_init 110 = .ok (.bipush 35, 2) := by decide +kernel
theorem d_Mo_init_112 : decode b_Mo_init 112 = .ok (.bipush 6, 2) := by decide +kernel
theorem d_Mo_init_114 : decode b_Mo_init 114 = .ok (.iastore, 1) := by decide +kernel
theorem d_Mo_init_115 : decode b_Mo_init 115 = .ok (.aload_n 0, 1) := by decide +kernel
theorem d_Mo_init_116 : decode b_Mo_init 116 = .ok (.getfield 7, 3) := by decide +kernel
theorem d_Mo_init_119 : decode b_Mo_init 119 = .ok (.bipush 36, 2) := by decide +kernel
theorem d_Mo_init_121 : decode b_Mo_init 121 = .ok (.iconst 1, 1) := by decide +kernel
theorem d_Mo_init_122 : decode b_Mo_init 122 = .ok (.bipush 6, 2) := by decide +kernel
theorem d_Mo_init_124 : decode b_Mo_init 124 = .ok (.invokestatic 46, 3) := by decide +kernel
theorem d_Mo_init_127 : decode b_Mo_init 127 = .ok (.iastore, 1) := by decide +kernel
theorem d_Mo_init_128 : decode b_Mo_init 128 = .ok (.return_, 1) := by decide +kernel
theorem d_Mo_h_0 : decode b_Mo_h 0 = .ok (.iload_n 0, 1) := by decide +kernel
theorem d_Mo_h_1 : decode b_Mo_h 1 = .ok (.ldc 50, 2) := by decide +kernel
theorem d_Mo_h_3 : decode b_Mo_h 3 = .ok (.ixor, 1) := by decide +kernel
theorem d_Mo_h_4 : decode b_Mo_h 4 = .ok (.ldc 51, 2) := by decide +kernel
theorem d_Mo_h_6 : decode b_Mo_h 6 = .ok (.imul, 1) := by decide +kernel
theorem d_Mo_h_7 : decode b_Mo_h 7 = .ok (.iload_n 1, 1) := by decide +kernel
theorem d_Mo_h_8 : decode b_Mo_h 8 = .ok (.iadd, 1) := by decide +kernel
theorem d_Mo_h_9 : decode b_Mo_h 9 = .ok (.istore_n 2, 1) := by decide +kernel
theorem d_Mo_h_10 : decode b_Mo_h 10 = .ok (.iload_n 2, 1) := by decide +kernel
theorem d_Mo_h_11 : decode b_Mo_h 11 = .ok (.iload_n 2, 1) := by decide +kernel
theorem d_Mo_h_12 : decode b_Mo_h 12 = .ok (.bipush 13, 2) := by decide +kernel
theorem d_Mo_h_14 : decode b_Mo_h 14 = .ok (.iushr, 1) := by decide +kernel
theorem d_Mo_h_15 : decode b_Mo_h 15 = .ok (.ixor, 1) := by decide +kernel
theorem d_Mo_h_16 : decode b_Mo_h 16 = .ok (.istore_n 2, 1) := by decide +kernel
theorem d_Mo_h_17 : decode b_Mo_h 17 = .ok (.iload_n 2, 1) := by decide +kernel
theorem d_Mo_h_18 : decode b_Mo_h 18 = .ok (.ldc 50, 2) := by decide +kernel
theorem d_Mo_h_20 : decode b_Mo_h 20 = .ok (.imul, 1) := by decide +kernel
theorem d_Mo_h_21 : decode b_Mo_h 21 = .ok (.istore_n 2, 1) := by decide +kernel
theorem d_Mo_h_22 : decode b_Mo_h 22 = .ok (.iload_n 2, 1) := by decide +kernel
theorem d_Mo_h_23 : decode b_Mo_h 23 = .ok (.iload_n 2, 1) := by decide +kernel
theorem d_Mo_h_24 : decode b_Mo_h 24 = .ok (.bipush 16, 2) := by decide +kernel
theorem d_Mo_h_26 : decode b_Mo_h 26 = .ok (.iushr, 1) := by decide +kernel
theorem d_Mo_h_27 : decode b_Mo_h 27 = .ok (.ixor, 1) := by decide +kernel
theorem d_Mo_h_28 : decode b_Mo_h 28 = .ok (.ireturn, 1) := by decide +kernel
theorem d_Mo_check_0 : decode b_Mo_check 0 = .ok (.iload_n 0, 1) := by decide +kernel
theorem d_Mo_check_1 : decode b_Mo_check 1 = .ok (.iload_n 1, 1) := by decide +kernel
theorem d_Mo_check_2 : decode b_Mo_check 2 = .ok (.invokestatic 52, 3) := by decide +kernel
theorem d_Mo_check_5 : decode b_Mo_check 5 = .ok (.istore_n 2, 1) := by decide +kernel
theorem d_Mo_check_6 : decode b_Mo_check 6 = .ok (.iload_n 2, 1) := by decide +kernel
theorem d_Mo_check_7 : decode b_Mo_check 7 = .ok (.iconst 5, 1) := by decide +kernel
theorem d_Mo_check_8 : decode b_Mo_check 8 = .ok (.invokestatic 52, 3) := by decide +kernel
theorem d_Mo_check_11 : decode b_Mo_check 11 = .ok (.ireturn, 1) := by decide +kernel
theorem d_Mo_along_0 : decode b_Mo_along 0 = .ok (.iload_n 0, 1) := by decide +kernel
theorem d_Mo_along_1 : decode b_Mo_along 1 = .ok (.istore 4, 2) := by decide +kernel
theorem d_Mo_along_3 : decode b_Mo_along 3 = .ok (.iload_n 2, 1) := by decide +kernel
theorem d_Mo_along_4 : decode b_Mo_along 4 = .ok (.istore 5, 2) := by decide +kernel
theorem d_Mo_along_6 : decode b_Mo_along 6 = .ok (.iload 5, 2) := by decide +kernel
theorem d_Mo_along_8 : decode b_Mo_along 8 = .ok (.iload_n 3, 1) := by decide +kernel
theorem d_Mo_along_9 : decode b_Mo_along 9 = .ok (.if_icmp .ge (23), 3) := by decide +kernel
theorem d_Mo_along_12 : decode b_Mo_along 12 = .ok (.iload 4, 2) := by decide +kernel
theorem d_Mo_along_14 : decode b_Mo_along 14 = .ok (.bipush 16, 2) := by decide +kernel
theorem d_Mo_along_16 : decode b_Mo_along 16 = .ok (.iload_n 1, 1) := by decide +kernel
theorem d_Mo_along_17 : decode b_Mo_along 17 = .ok (.imul, 1) := by decide +kernel
theorem d_Mo_along_18 : decode b_Mo_along 18 = .ok (.iload 5, 2) := by decide +kernel
theorem d_Mo_along_20 : decode b_Mo_along 20 = .ok (.iadd, 1) := by decide +kernel
theorem d_Mo_along_21 : decode b_Mo_along 21 = .ok (.invokestatic 52, 3) := by decide +kernel
theorem d_Mo_along_24 : decode b_Mo_along 24 = .ok (.istore 4, 2) := by decide +kernel
theorem d_Mo_along_26 : decode b_Mo_along 26 = .ok (.iinc 5 (1), 3) := by decide +kernel
theorem d_Mo_along_29 : decode b_Mo_along 29 = .ok (.goto (-23), 3) := by decide +kernel
theorem d_Mo_along_32 : decode b_Mo_along 32 = .ok (.iload 4, 2) := by decide +kernel
theorem d_Mo_along_34 : decode b_Mo_along 34 = .ok (.ireturn, 1) := by decide +kernel
theorem d_Mo_chain_0 : decode b_Mo_chain 0 = .ok (.aload_n 0, 1) := by decide +kernel
theorem d_Mo_chain_1 : decode b_Mo_chain 1 = .ok (.getfield 32, 3) := by decide +kernel
theorem d_Mo_chain_4 : decode b_Mo_chain 4 = .ok (.iload_n 1, 1) := by decide +kernel
theorem d_Mo_chain_5 : decode b_Mo_chain 5 = .ok (.invokestatic 52, 3) := by decide +kernel
theorem d_Mo_chain_8 : decode b_Mo_chain 8 = .ok (.istore 4, 2) := by decide +kernel
theorem d_Mo_chain_10 : decode b_Mo_chain 10 = .ok (.iload 4, 2) := by decide +kernel
theorem d_Mo_chain_12 : decode b_Mo_chain 12 = .ok (.iload_n 2, 1) := by decide +kernel
theorem d_Mo_chain_13 : decode b_Mo_chain 13 = .ok (.invokestatic 52, 3) := by decide +kernel
theorem d_Mo_chain_16 : decode b_Mo_chain 16 = .ok (.istore 4, 2) := by decide +kernel
theorem d_Mo_chain_18 : decode b_Mo_chain 18 = .ok (.iload 4, 2) := by decide +kernel
theorem d_Mo_chain_20 : decode b_Mo_chain 20 = .ok (.iload_n 2, 1) := by decide +kernel
theorem d_Mo_chain_21 : decode b_Mo_chain 21 = .ok (.iconst 0, 1) := by decide +kernel
theorem d_Mo_chain_22 : decode b_Mo_chain 22 = .ok (.iload_n 3, 1) := by decide +kernel
theorem d_Mo_chain_23 : decode b_Mo_chain 23 = .ok (.invokestatic 55, 3) := by decide +kernel
theorem d_Mo_chain_26 : decode b_Mo_chain 26 = .ok (.ireturn, 1) := by decide +kernel
theorem d_Mo_leaf_0 : decode b_Mo_leaf 0 = .ok (.iload_n 1, 1) := by decide +kernel
theorem d_Mo_leaf_1 : decode b_Mo_leaf 1 = .ok (.istore_n 2, 1) := by decide +kernel
theorem d_Mo_leaf_2 : decode b_Mo_leaf 2 = .ok (.iconst 0, 1) := by decide +kernel
theorem d_Mo_leaf_3 : decode b_Mo_leaf 3 = .ok (.istore_n 3, 1) := by decide +kernel
theorem d_Mo_leaf_4 : decode b_Mo_leaf 4 = .ok (.iload_n 3, 1) := by decide +kernel
theorem d_Mo_leaf_5 : decode b_Mo_leaf 5 = .ok (.bipush 6, 2) := by decide +kernel
theorem d_Mo_leaf_7 : decode b_Mo_leaf 7 = .ok (.if_icmp .ge (20), 3) := by decide +kernel
theorem d_Mo_leaf_10 : decode b_Mo_leaf 10 = .ok (.iload_n 2, 1) := by decide +kernel
theorem d_Mo_leaf_11 : decode b_Mo_leaf 11 = .ok (.aload_n 0, 1) := by decide +kernel
theorem d_Mo_leaf_12 : decode b_Mo_leaf 12 = .ok (.getfield 26, 3) := by decide +kernel
theorem d_Mo_leaf_15 : decode b_Mo_leaf 15 = .ok (.iload_n 3, 1) := by decide +kernel
theorem d_Mo_leaf_16 : decode b_Mo_leaf 16 = .ok (.iaload, 1) := by decide +kernel
theorem d_Mo_leaf_17 : decode b_Mo_leaf 17 = .ok (.invokestatic 52, 3) := by decide +kernel
theorem d_Mo_leaf_20 : decode b_Mo_leaf 20 = .ok (.istore_n 2, 1) := by decide +kernel
theorem d_Mo_leaf_21 : decode b_Mo_leaf 21 = .ok (.iinc 3 (1), 3) := by decide +kernel
theorem d_Mo_leaf_24 : decode b_Mo_leaf 24 = .ok (.goto (-20), 3) := by decide +kernel
theorem d_Mo_leaf_27 : decode b_Mo_leaf 27 = .ok (.iload_n 2, 1) := by decide +kernel
theorem d_Mo_leaf_28 : decode b_Mo_leaf 28 = .ok (.ireturn, 1) := by decide +kernel
theorem d_Mo_join_0 : decode b_Mo_join 0 = .ok (.iload_n 0, 1) := by decide +kernel
theorem d_Mo_join_1 : decode b_Mo_join 1 = .ok (.iload_n 1, 1) := by decide +kernel
theorem d_Mo_join_2 : decode b_Mo_join 2 = .ok (.invokestatic 52, 3) := by decide +kernel
theorem d_Mo_join_5 : decode b_Mo_join 5 = .ok (.istore_n 3, 1) := by decide +kernel
theorem d_Mo_join_6 : decode b_Mo_join 6 = .ok (.iload_n 3, 1) := by decide +kernel
theorem d_Mo_join_7 : decode b_Mo_join 7 = .ok (.iload_n 2, 1) := by decide +kernel
theorem d_Mo_join_8 : decode b_Mo_join 8 = .ok (.invokestatic 52, 3) := by decide +kernel
theorem d_Mo_join_11 : decode b_Mo_join 11 = .ok (.ireturn, 1) := by decide +kernel
theorem d_Mo_tree_0 : decode b_Mo_tree 0 = .ok (.iconst 0, 1) := by decide +kernel
theorem d_Mo_tree_1 : decode b_Mo_tree 1 = .ok (.istore_n 1, 1) := by decide +kernel
theorem d_Mo_tree_2 : decode b_Mo_tree 2 = .ok (.iload_n 1, 1) := by decide +kernel
theorem d_Mo_tree_3 : decode b_Mo_tree 3 = .ok (.bipush 8, 2) := by decide +kernel
theorem d_Mo_tree_5 : decode b_Mo_tree 5 = .ok (.if_icmp .ge (51), 3) := by decide +kernel
theorem d_Mo_tree_8 : decode b_Mo_tree 8 = .ok (.iconst 0, 1) := by decide +kernel
theorem d_Mo_tree_9 : decode b_Mo_tree 9 = .ok (.istore_n 2, 1) := by decide +kernel
theorem d_Mo_tree_10 : decode b_Mo_tree 10 = .ok (.iload_n 2, 1) := by decide +kernel
theorem d_Mo_tree_11 : decode b_Mo_tree 11 = .ok (.bipush 6, 2) := by decide +kernel
theorem d_Mo_tree_13 : decode b_Mo_tree 13 = .ok (.if_icmp .ge (23), 3) := by decide +kernel
theorem d_Mo_tree_16 : decode b_Mo_tree 16 = .ok (.aload_n 0, 1) := by decide +kernel
theorem d_Mo_tree_17 : decode b_Mo_tree 17 = .ok (.getfield 26, 3) := by decide +kernel
theorem d_Mo_tree_20 : decode b_Mo_tree 20 = .ok (.iload_n 2, 1) := by decide +kernel
theorem d_Mo_tree_21 : decode b_Mo_tree 21 = .ok (.aload_n 0, 1) := by decide +kernel
theorem d_Mo_tree_22 : decode b_Mo_tree 22 = .ok (.iload_n 1, 1) := by decide +kernel
theorem d_Mo_tree_23 : decode b_Mo_tree 23 = .ok (.iload_n 2, 1) := by decide +kernel
theorem d_Mo_tree_24 : decode b_Mo_tree 24 = .ok (.bipush 15, 2) := by decide +kernel
theorem d_Mo_tree_26 : decode b_Mo_tree 26 = .ok (.invokevirtual 59, 3) := by decide +kernel
theorem d_Mo_tree_29 : decode b_Mo_tree 29 = .ok (.iastore, 1) := by decide +kernel
theorem d_Mo_tree_30 : decode b_Mo_tree 30 = .ok (.iinc 2 (1), 3) := by decide +kernel
theorem d_Mo_tree_33 : decode b_Mo_tree 33 = .ok (.goto (-23), 3) := by decide +kernel
theorem d_Mo_tree_36 : decode b_Mo_tree 36 = .ok (.aload_n 0, 1) := by decide +kernel
theorem d_Mo_tree_37 : decode b_Mo_tree 37 = .ok (.getfield 29, 3) := by decide +kernel
theorem d_Mo_tree_40 : decode b_Mo_tree 40 = .ok (.bipush 8, 2) := by decide +kernel
theorem d_Mo_tree_42 : decode b_Mo_tree 42 = .ok (.iload_n 1, 1) := by decide +kernel
theorem d_Mo_tree_43 : decode b_Mo_tree 43 = .ok (.iadd, 1) := by decide +kernel
theorem d_Mo_tree_44 : decode b_Mo_tree 44 = .ok (.aload_n 0, 1) := by decide +kernel
theorem d_Mo_tree_45 : decode b_Mo_tree 45 = .ok (.iload_n 1, 1) := by decide +kernel
theorem d_Mo_tree_46 : decode b_Mo_tree 46 = .ok (.invokevirtual 63, 3) := by decide +kernel
theorem d_Mo_tree_49 : decode b_Mo_tree 49 = .ok (.iastore, 1) := by decide +kernel
theorem d_Mo_tree_50 : decode b_Mo_tree 50 = .ok (.iinc 1 (1), 3) := by decide +kernel
theorem d_Mo_tree_53 : decode b_Mo_tree 53 = .ok (.goto (-51), 3) := by decide +kernel
theorem d_Mo_tree_56 : decode b_Mo_tree 56 = .ok (.bipush 7, 2) := by decide +kernel
theorem d_Mo_tree_58 : decode b_Mo_tree 58 = .ok (.istore_n 1, 1) := by decide +kernel
theorem d_Mo_tree_59 : decode b_Mo_tree 59 = .ok (.iload_n 1, 1) := by decide +kernel
theorem d_Mo_tree_60 : decode b_Mo_tree 60 = .ok (.iconst 1, 1) := by decide +kernel
theorem d_Mo_tree_61 : decode b_Mo_tree 61 = .ok (.if_icmp .lt (37), 3) := by decide +kernel
theorem d_Mo_tree_64 : decode b_Mo_tree 64 = .ok (.aload_n 0, 1) := by decide +kernel
theorem d_Mo_tree_65 : decode b_Mo_tree 65 = .ok (.getfield 29, 3) := by decide +kernel
theorem d_Mo_tree_68 : decode b_Mo_tree 68 = .ok (.iload_n 1, 1) := by decide +kernel
theorem d_Mo_tree_69 : decode b_Mo_tree 69 = .ok (.aload_n 0, 1) := by decide +kernel
theorem d_Mo_tree_70 : decode b_Mo_tree 70 = .ok (.getfield 29, 3) := by decide +kernel
theorem d_Mo_tree_73 : decode b_Mo_tree 73 = .ok (.iconst 2, 1) := by decide +kernel
theorem d_Mo_tree_74 : decode b_Mo_tree 74 = .ok (.iload_n 1, 1) := by decide +kernel
theorem d_Mo_tree_75 : decode b_Mo_tree 75 = .ok (.imul, 1) := by decide +kernel
theorem d_Mo_tree_76 : decode b_Mo_tree 76 = .ok (.iaload, 1) := by decide +kernel
theorem d_Mo_tree_77 : decode b_Mo_tree 77 = .ok (.aload_n 0, 1) := by decide +kernel
theorem d_Mo_tree_78 : decode b_Mo_tree 78 = .ok (.getfield 29, 3) := by decide +kernel
theorem d_Mo_tree_81 : decode b_Mo_tree 81 = .ok (.iconst 2, 1) := by decide +kernel
theorem d_Mo_tree_82 : decode b_Mo_tree 82 = .ok (.iload_n 1, 1) := by decide +kernel
theorem d_Mo_tree_83 : decode b_Mo_tree 83 = .ok (.imul, 1) := by decide +kernel
theorem d_Mo_tree_84 : decode b_Mo_tree 84 = .ok (.iconst 1, 1) := by decide +kernel
theorem d_Mo_tree_85 : decode b_Mo_tree 85 = .ok (.iadd, 1) := by decide +kernel
theorem d_Mo_tree_86 : decode b_Mo_tree 86 = .ok (.iaload, 1) := by decide +kernel
theorem d_Mo_tree_87 : decode b_Mo_tree 87 = .ok (.iload_n 1, 1) := by decide +kernel
theorem d_Mo_tree_88 : decode b_Mo_tree 88 = .ok (.invokestatic 67, 3) := by decide +kernel
theorem d_Mo_tree_91 : decode b_Mo_tree 91 = .ok (.iastore, 1) := by decide +kernel
theorem d_Mo_tree_92 : decode b_Mo_tree 92 = .ok (.iinc 1 (-1), 3) := by decide +kernel
theorem d_Mo_tree_95 : decode b_Mo_tree 95 = .ok (.goto (-36), 3) := by decide +kernel
theorem d_Mo_tree_98 : decode b_Mo_tree 98 = .ok (.return_, 1) := by decide +kernel
theorem d_Mo_key_0 : decode b_Mo_key 0 = .ok (.aload_n 0, 1) := by decide +kernel
theorem d_Mo_key_1 : decode b_Mo_key 1 = .ok (.invokevirtual 70, 3) := by decide +kernel
theorem d_Mo_key_4 : decode b_Mo_key 4 = .ok (.aload_n 0, 1) := by decide +kernel
theorem d_Mo_key_5 : decode b_Mo_key 5 = .ok (.getfield 29, 3) := by decide +kernel
theorem d_Mo_key_8 : decode b_Mo_key 8 = .ok (.iconst 1, 1) := by decide +kernel
theorem d_Mo_key_9 : decode b_Mo_key 9 = .ok (.iaload, 1) := by decide +kernel
theorem d_Mo_key_10 : decode b_Mo_key 10 = .ok (.ireturn, 1) := by decide +kernel
theorem d_Mo_digits_0 : decode b_Mo_digits 0 = .ok (.bipush 17, 2) := by decide +kernel
theorem d_Mo_digits_2 : decode b_Mo_digits 2 = .ok (.istore_n 2, 1) := by decide +kernel
theorem d_Mo_digits_3 : decode b_Mo_digits 3 = .ok (.iconst 0, 1) := by decide +kernel
theorem d_Mo_digits_4 : decode b_Mo_digits 4 = .ok (.istore_n 3, 1) := by decide +kernel
theorem d_Mo_digits_5 : decode b_Mo_digits 5 = .ok (.iload_n 3, 1) := by decide +kernel
theorem d_Mo_digits_6 : decode b_Mo_digits 6 = .ok (.iconst 4, 1) := by decide +kernel
theorem d_Mo_digits_7 : decode b_Mo_digits 7 = .ok (.if_icmp .ge (22), 3) := by decide +kernel
theorem d_Mo_digits_10 : decode b_Mo_digits 10 = .ok (.iload_n 2, 1) := by decide +kernel
theorem d_Mo_digits_11 : decode b_Mo_digits 11 = .ok (.aload_n 0, 1) := by decide +kernel
theorem d_Mo_digits_12 : decode b_Mo_digits 12 = .ok (.getfield 7, 3) := by decide +kernel
theorem d_Mo_digits_15 : decode b_Mo_digits 15 = .ok (.iload_n 1, 1) := by decide +kernel
theorem d_Mo_digits_16 : decode b_Mo_digits 16 = .ok (.iload_n 3, 1) := by decide +kernel
theorem d_Mo_digits_17 : decode b_Mo_digits 17 = .ok (.iadd, 1) := by decide +kernel
theorem d_Mo_digits_18 : decode b_Mo_digits 18 = .ok (.iaload, 1) := by decide +kernel
theorem d_Mo_digits_19 : decode b_Mo_digits 19 = .ok (.invokestatic 52, 3) := by decide +kernel
theorem d_Mo_digits_22 : decode b_Mo_digits 22 = .ok (.istore_n 2, 1) := by decide +kernel
theorem d_Mo_digits_23 : decode b_Mo_digits 23 = .ok (.iinc 3 (1), 3) := by decide +kernel
theorem d_Mo_digits_26 : decode b_Mo_digits 26 = .ok (.goto (-21), 3) := by decide +kernel
theorem d_Mo_digits_29 : decode b_Mo_digits 29 = .ok (.bipush 60, 2) := by decide +kernel
theorem d_Mo_digits_31 : decode b_Mo_digits 31 = .ok (.istore_n 3, 1) := by decide +kernel
theorem d_Mo_digits_32 : decode b_Mo_digits 32 = .ok (.iconst 0, 1) := by decide +kernel
theorem d_Mo_digits_33 : decode b_Mo_digits 33 = .ok (.istore 4, 2) := by decide +kernel
theorem d_Mo_digits_35 : decode b_Mo_digits 35 = .ok (.iload 4, 2) := by decide +kernel
theorem d_Mo_digits_37 : decode b_Mo_digits 37 = .ok (.iconst 4, 1) := by decide +kernel
theorem d_Mo_digits_38 : decode b_Mo_digits 38 = .ok (.if_icmp .ge (35), 3) := by decide +kernel
theorem d_Mo_digits_41 : decode b_Mo_digits 41 = .ok (.aload_n 0, 1) := by decide +kernel
theorem d_Mo_digits_42 : decode b_Mo_digits 42 = .ok (.getfield 23, 3) := by decide +kernel
theorem d_Mo_digits_45 : decode b_Mo_digits 45 = .ok (.iload 4, 2) := by decide +kernel
theorem d_Mo_digits_47 : decode b_Mo_digits 47 = .ok (.iload_n 2, 1) := by decide +kernel
theorem d_Mo_digits_48 : decode b_Mo_digits 48 = .ok (.iconst 4, 1) := by decide +kernel
theorem d_Mo_digits_49 : decode b_Mo_digits 49 = .ok (.iload 4, 2) := by decide +kernel
theorem d_Mo_digits_51 : decode b_Mo_digits 51 = .ok (.imul, 1) := by decide +kernel
theorem d_Mo_digits_52 : decode b_Mo_digits 52 = .ok (.iushr, 1) := by decide +kernel
theorem d_Mo_digits_53 : decode b_Mo_digits 53 = .ok (.bipush 15, 2) := by decide +kernel
theorem d_Mo_digits_55 : decode b_Mo_digits 55 = .ok (.iand, 1) := by decide +kernel
theorem d_Mo_digits_56 : decode b_Mo_digits 56 = .ok (.iastore, 1) := by decide +kernel
theorem d_Mo_digits_57 : decode b_Mo_digits 57 = .ok (.iload_n 3, 1) := by decide +kernel
theorem d_Mo_digits_58 : decode b_Mo_digits 58 = .ok (.aload_n 0, 1) := by decide +kernel
theorem d_Mo_digits_59 : decode b_Mo_digits 59 = .ok (.getfield 23, 3) := by decide +kernel
theorem d_Mo_digits_62 : decode b_Mo_digits 62 = .ok (.iload 4, 2) := by decide +kernel
theorem d_Mo_digits_64 : decode b_Mo_digits 64 = .ok (.iaload, 1) := by decide +kernel
theorem d_Mo_digits_65 : decode b_Mo_digits 65 = .ok (.isub, 1) := by decide +kernel
theorem d_Mo_digits_66 : decode b_Mo_digits 66 = .ok (.istore_n 3, 1) := by decide +kernel
theorem d_Mo_digits_67 : decode b_Mo_digits 67 = .ok (.iinc 4 (1), 3) := by decide +kernel
theorem d_Mo_digits_70 : decode b_Mo_digits 70 = .ok (.goto (-35), 3) := by decide +kernel
theorem d_Mo_digits_73 : decode b_Mo_digits 73 = .ok (.aload_n 0, 1) := by decide +kernel
theorem d_Mo_digits_74 : decode b_Mo_digits 74 = .ok (.getfield 23, 3) := by decide +kernel
theorem d_Mo_digits_77 : decode b_Mo_digits 77 = .ok (.iconst 4, 1) := by decide +kernel
theorem d_Mo_digits_78 : decode b_Mo_digits 78 = .ok (.iload_n 3, 1) := by decide +kernel
theorem d_Mo_digits_79 : decode b_Mo_digits 79 = .ok (.bipush 15, 2) := by decide +kernel
theorem d_Mo_digits_81 : decode b_Mo_digits 81 = .ok (.iand, 1) := by decide +kernel
theorem d_Mo_digits_82 : decode b_Mo_digits 82 = .ok (.iastore, 1) := by decide +kernel
theorem d_Mo_digits_83 : decode b_Mo_digits 83 = .ok (.aload_n 0, 1) := by decide +kernel
theorem d_Mo_digits_84 : decode b_Mo_digits 84 = .ok (.getfield 23, 3) := by decide +kernel
theorem d_Mo_digits_87 : decode b_Mo_digits 87 = .ok (.iconst 5, 1) := by decide +kernel
theorem d_Mo_digits_88 : decode b_Mo_digits 88 = .ok (.iload_n 3, 1) := by decide +kernel
theorem d_Mo_digits_89 : decode b_Mo_digits 89 = .ok (.iconst 4, 1) := by decide +kernel
theorem d_Mo_digits_90 : decode b_Mo_digits 90 = .ok (.iushr, 1) := by decide +kernel
theorem d_Mo_digits_91 : decode b_Mo_digits 91 = .ok (.iastore, 1) := by decide +kernel
theorem d_Mo_digits_92 : decode b_Mo_digits 92 = .ok (.return_, 1) := by decide +kernel
theorem d_Mo_signed_0 : decode b_Mo_signed 0 = .ok (.aload_n 0, 1) := by decide +kernel
theorem d_Mo_signed_1 : decode b_Mo_signed 1 = .ok (.getfield 7, 3) := by decide +kernel
theorem d_Mo_signed_4 : decode b_Mo_signed 4 = .ok (.iload_n 1, 1) := by decide +kernel
theorem d_Mo_signed_5 : decode b_Mo_signed 5 = .ok (.iconst 4, 1) := by decide +kernel
theorem d_Mo_signed_6 : decode b_Mo_signed 6 = .ok (.iadd, 1) := by decide +kernel
theorem d_Mo_signed_7 : decode b_Mo_signed 7 = .ok (.iaload, 1) := by decide +kernel
theorem d_Mo_signed_8 : decode b_Mo_signed 8 = .ok (.istore_n 2, 1) := by decide +kernel
theorem d_Mo_signed_9 : decode b_Mo_signed 9 = .ok (.iload_n 2, 1) := by decide +kernel
theorem d_Mo_signed_10 : decode b_Mo_signed 10 = .ok (.ifCond .lt (9), 3) := by decide +kernel
theorem d_Mo_signed_13 : decode b_Mo_signed 13 = .ok (.iload_n 2, 1) := by decide +kernel
theorem d_Mo_signed_14 : decode b_Mo_signed 14 = .ok (.bipush 7, 2) := by decide +kernel
theorem d_Mo_signed_16 : decode b_Mo_signed 16 = .ok (.if_icmp .le (5), 3) := by decide +kernel
theorem d_Mo_signed_19 : decode b_Mo_signed 19 = .ok (.iconst 0, 1) := by decide +kernel
theorem d_Mo_signed_20 : decode b_Mo_signed 20 = .ok (.ireturn, 1) := by decide +kernel
theorem d_Mo_signed_21 : decode b_Mo_signed 21 = .ok (.aload_n 0, 1) := by decide +kernel
theorem d_Mo_signed_22 : decode b_Mo_signed 22 = .ok (.invokevirtual 73, 3) := by decide +kernel
theorem d_Mo_signed_25 : decode b_Mo_signed 25 = .ok (.istore_n 3, 1) := by decide +kernel
theorem d_Mo_signed_26 : decode b_Mo_signed 26 = .ok (.aload_n 0, 1) := by decide +kernel
theorem d_Mo_signed_27 : decode b_Mo_signed 27 = .ok (.iload_n 1, 1) := by decide +kernel
theorem d_Mo_signed_28 : decode b_Mo_signed 28 = .ok (.invokevirtual 77, 3) := by decide +kernel
theorem d_Mo_signed_31 : decode b_Mo_signed 31 = .ok (.iconst 0, 1) := by decide +kernel
theorem d_Mo_signed_32 : decode b_Mo_signed 32 = .ok (.istore 4, 2) := by decide +kernel
theorem d_Mo_signed_34 : decode b_Mo_signed 34 = .ok (.iload 4, 2) := by decide +kernel
theorem d_Mo_signed_36 : decode b_Mo_signed 36 = .ok (.bipush 6, 2) := by decide +kernel
theorem d_Mo_signed_38 : decode b_Mo_signed 38 = .ok (.if_icmp .ge (41), 3) := by decide +kernel
theorem d_Mo_signed_41 : decode b_Mo_signed 41 = .ok (.aload_n 0, 1) := by decide +kernel
theorem d_Mo_signed_42 : decode b_Mo_signed 42 = .ok (.getfield 26, 3) := by decide +kernel
theorem d_Mo_signed_45 : decode b_Mo_signed 45 = .ok (.iload 4, 2) := by decide +kernel
theorem d_Mo_signed_47 : decode b_Mo_signed 47 = .ok (.aload_n 0, 1) := by decide +kernel
theorem d_Mo_signed_48 : decode b_Mo_signed 48 = .ok (.getfield 7, 3) := by decide +kernel
theorem d_Mo_signed_51 : decode b_Mo_signed 51 = .ok (.iload_n 1, 1) := by decide +kernel
theorem d_Mo_signed_52 : decode b_Mo_signed 52 = .ok (.iconst 5, 1) := by decide +kernel
theorem d_Mo_signed_53 : decode b_Mo_signed 53 = .ok (.iadd, 1) := by decide +kernel
theorem d_Mo_signed_54 : decode b_Mo_signed 54 = .ok (.iload 4, 2) := by decide +kernel
theorem d_Mo_signed_56 : decode b_Mo_signed 56 = .ok (.iadd, 1) := by decide +kernel
theorem d_Mo_signed_57 : decode b_Mo_signed 57 = .ok (.iaload, 1) := by decide +kernel
theorem d_Mo_signed_58 : decode b_Mo_signed 58 = .ok (.iload 4, 2) := by decide +kernel
theorem d_Mo_signed_60 : decode b_Mo_signed 60 = .ok (.aload_n 0, 1) := by decide +kernel
theorem d_Mo_signed_61 : decode b_Mo_signed 61 = .ok (.getfield 23, 3) := by decide +kernel
theorem d_Mo_signed_64 : decode b_Mo_signed 64 = .ok (.iload 4, 2) := by decide +kernel
theorem d_Mo_signed_66 : decode b_Mo_signed 66 = .ok (.iaload, 1) := by decide +kernel
theorem d_Mo_signed_67 : decode b_Mo_signed 67 = .ok (.bipush 15, 2) := by decide +kernel
theorem d_Mo_signed_69 : decode b_Mo_signed 69 = .ok (.invokestatic 55, 3) := by decide +kernel
theorem d_Mo_signed_72 : decode b_Mo_signed 72 = .ok (.iastore, 1) := by decide +kernel
theorem d_Mo_signed_73 : decode b_Mo_signed 73 = .ok (.iinc 4 (1), 3) := by decide +kernel
theorem d_Mo_signed_76 : decode b_Mo_signed 76 = .ok (.goto (-42), 3) := by decide +kernel
theorem d_Mo_signed_79 : decode b_Mo_signed 79 = .ok (.aload_n 0, 1) := by decide +kernel
theorem d_Mo_signed_80 : decode b_Mo_signed 80 = .ok (.iload_n 2, 1) := by decide +kernel
theorem d_Mo_signed_81 : decode b_Mo_signed 81 = .ok (.invokevirtual 63, 3) := by decide +kernel
theorem d_Mo_signed_84 : decode b_Mo_signed 84 = .ok (.istore 4, 2) := by decide +kernel
theorem d_Mo_signed_86 : decode b_Mo_signed 86 = .ok (.bipush 8, 2) := by decide +kernel
theorem d_Mo_signed_88 : decode b_Mo_signed 88 = .ok (.iload_n 2, 1) := by decide +kernel
theorem d_Mo_signed_89 : decode b_Mo_signed 89 = .ok (.iadd, 1) := by decide +kernel
theorem d_Mo_signed_90 : decode b_Mo_signed 90 = .ok (.istore 5, 2) := by decide +kernel
theorem d_Mo_signed_92 : decode b_Mo_signed 92 = .ok (.bipush 11, 2) := by decide +kernel
theorem d_Mo_signed_94 : decode b_Mo_signed 94 = .ok (.istore 6, 2) := by decide +kernel
theorem d_Mo_signed_96 : decode b_Mo_signed 96 = .ok (.iload 6, 2) := by decide +kernel
theorem d_Mo_signed_98 : decode b_Mo_signed 98 = .ok (.bipush 14, 2) := by decide +kernel
theorem d_Mo_signed_100 : decode b_Mo_signed 100 = .ok (.if_icmp .ge (60), 3) := by decide +kernel
theorem d_Mo_signed_103 : decode b_Mo_signed 103 = .ok (.aload_n 0, 1) := by decide +kernel
theorem d_Mo_signed_104 : decode b_Mo_signed 104 = .ok (.getfield 7, 3) := by decide +kernel
theorem d_Mo_signed_107 : decode b_Mo_signed 107 = .ok (.iload_n 1, 1) := by decide +kernel
theorem d_Mo_signed_108 : decode b_Mo_signed 108 = .ok (.iload 6, 2) := by decide +kernel
theorem d_Mo_signed_110 : decode b_Mo_signed 110 = .ok (.iadd, 1) := by decide +kernel
theorem d_Mo_signed_111 : decode b_Mo_signed 111 = .ok (.iaload, 1) := by decide +kernel
theorem d_Mo_signed_112 : decode b_Mo_signed 112 = .ok (.istore 7, 2) := by decide +kernel
theorem d_Mo_signed_114 : decode b_Mo_signed 114 = .ok (.iload 5, 2) := by decide +kernel
theorem d_Mo_signed_116 : decode b_Mo_signed 116 = .ok (.iconst 2, 1) := by decide +kernel
theorem d_Mo_signed_117 : decode b_Mo_signed 117 = .ok (.irem, 1) := by decide +kernel
theorem d_Mo_signed_118 : decode b_Mo_signed 118 = .ok (.ifCond .ne (17), 3) := by decide +kernel
theorem d_Mo_signed_121 : decode b_Mo_signed 121 = .ok (.iload 4, 2) := by decide +kernel
theorem d_Mo_signed_123 : decode b_Mo_signed 123 = .ok (.iload 7, 2) := by decide +kernel
theorem d_Mo_signed_125 : decode b_Mo_signed 125 = .ok (.iload 5, 2) := by decide +kernel
theorem d_Mo_signed_127 : decode b_Mo_signed 127 = .ok (.iconst 2, 1) := by decide +kernel
theorem d_Mo_signed_128 : decode b_Mo_signed 128 = .ok (.idiv, 1) := by decide +kernel
theorem d_Mo_signed_129 : decode b_Mo_signed 129 = .ok (.invokestatic 67, 3) := by decide +kernel
theorem d_Mo_signed_132 : decode b_Mo_signed 132 = .ok (.goto (14), 3) := by decide +kernel
theorem d_Mo_signed_135 : decode b_Mo_signed 135 = .ok (.iload 7, 2) := by decide +kernel
theorem d_Mo_signed_137 : decode b_Mo_signed 137 = .ok (.iload 4, 2) := by decide +kernel
theorem d_Mo_signed_139 : decode b_Mo_signed 139 = .ok (.iload 5, 2) := by decide +kernel
theorem d_Mo_signed_141 : decode b_Mo_signed 141 = .ok (.iconst 2, 1) := by decide +kernel
theorem d_Mo_signed_142 : decode b_Mo_signed 142 = .ok (.idiv, 1) := by decide +kernel
theorem d_Mo_signed_143 : decode b_Mo_signed 143 = .ok (.invokestatic 67, 3) := by decide +kernel
theorem d_Mo_signed_146 : decode b_Mo_signed 146 = .ok (.istore 4, 2) := by decide +kernel
theorem d_Mo_signed_148 : decode b_Mo_signed 148 = .ok (.iload 5, 2) := by decide +kernel
theorem d_Mo_signed_150 : decode b_Mo_signed 150 = .ok (.iconst 2, 1) := by decide +kernel
theorem d_Mo_signed_151 : decode b_Mo_signed 151 = .ok (.idiv, 1) := by decide +kernel
theorem d_Mo_signed_152 : decode b_Mo_signed 152 = .ok (.istore 5, 2) := by decide +kernel
theorem d_Mo_signed_154 : decode b_Mo_signed 154 = .ok (.iinc 6 (1), 3) := by decide +kernel
theorem d_Mo_signed_157 : decode b_Mo_signed 157 = .ok (.goto (-61), 3) := by decide +kernel
theorem d_Mo_signed_160 : decode b_Mo_signed 160 = .ok (.iload 4, 2) := by decide +kernel
theorem d_Mo_signed_162 : decode b_Mo_signed 162 = .ok (.iload_n 3, 1) := by decide +kernel
theorem d_Mo_signed_163 : decode b_Mo_signed 163 = .ok (.if_icmp .ne (7), 3) := by decide +kernel
theorem d_Mo_signed_166 : decode b_Mo_signed 166 = .ok (.iconst 1, 1) := by decide +kernel
theorem d_Mo_signed_167 : decode b_Mo_signed 167 = .ok (.goto (4), 3) := by decide +kernel
theorem d_Mo_signed_170 : decode b_Mo_signed 170 = .ok (.iconst 0, 1) := by decide +kernel
theorem d_Mo_signed_171 : decode b_Mo_signed 171 = .ok (.ireturn, 1) := by decide +kernel
theorem d_Mo_pack_0 : decode b_Mo_pack 0 = .ok (.aload_n 0, 1) := by decide +kernel
theorem d_Mo_pack_1 : decode b_Mo_pack 1 = .ok (.getfield 7, 3) := by decide +kernel
theorem d_Mo_pack_4 : decode b_Mo_pack 4 = .ok (.iload_n 1, 1) := by decide +kernel
theorem d_Mo_pack_5 : decode b_Mo_pack 5 = .ok (.iload_n 3, 1) := by decide +kernel
theorem d_Mo_pack_6 : decode b_Mo_pack 6 = .ok (.iastore, 1) := by decide +kernel
theorem d_Mo_pack_7 : decode b_Mo_pack 7 = .ok (.aload_n 0, 1) := by decide +kernel
theorem d_Mo_pack_8 : decode b_Mo_pack 8 = .ok (.getfield 7, 3) := by decide +kernel
theorem d_Mo_pack_11 : decode b_Mo_pack 11 = .ok (.iload_n 1, 1) := by decide +kernel
theorem d_Mo_pack_12 : decode b_Mo_pack 12 = .ok (.iconst 4, 1) := by decide +kernel
theorem d_Mo_pack_13 : decode b_Mo_pack 13 = .ok (.iadd, 1) := by decide +kernel
theorem d_Mo_pack_14 : decode b_Mo_pack 14 = .ok (.iload_n 2, 1) := by decide +kernel
theorem d_Mo_pack_15 : decode b_Mo_pack 15 = .ok (.iastore, 1) := by decide +kernel
theorem d_Mo_pack_16 : decode b_Mo_pack 16 = .ok (.aload_n 0, 1) := by decide +kernel
theorem d_Mo_pack_17 : decode b_Mo_pack 17 = .ok (.getfield 7, 3) := by decide +kernel
theorem d_Mo_pack_20 : decode b_Mo_pack 20 = .ok (.iload_n 1, 1) := by decide +kernel
theorem d_Mo_pack_21 : decode b_Mo_pack 21 = .ok (.bipush 14, 2) := by decide +kernel
theorem d_Mo_pack_23 : decode b_Mo_pack 23 = .ok (.iadd, 1) := by decide +kernel
theorem d_Mo_pack_24 : decode b_Mo_pack 24 = .ok (.iload 4, 2) := by decide +kernel
theorem d_Mo_pack_26 : decode b_Mo_pack 26 = .ok (.iastore, 1) := by decide +kernel
theorem d_Mo_pack_27 : decode b_Mo_pack 27 = .ok (.return_, 1) := by decide +kernel
theorem d_Mo_seal_0 : decode b_Mo_seal 0 = .ok (.iconst 0, 1) := by decide +kernel
theorem d_Mo_seal_1 : decode b_Mo_seal 1 = .ok (.istore_n 3, 1) := by decide +kernel
theorem d_Mo_seal_2 : decode b_Mo_seal 2 = .ok (.iload_n 3, 1) := by decide +kernel
theorem d_Mo_seal_3 : decode b_Mo_seal 3 = .ok (.iconst 3, 1) := by decide +kernel
theorem d_Mo_seal_4 : decode b_Mo_seal 4 = .ok (.if_icmp .ge (34), 3) := by decide +kernel
theorem d_Mo_seal_7 : decode b_Mo_seal 7 = .ok (.aload_n 0, 1) := by decide +kernel
theorem d_Mo_seal_8 : decode b_Mo_seal 8 = .ok (.getfield 7, 3) := by decide +kernel
theorem d_Mo_seal_11 : decode b_Mo_seal 11 = .ok (.iload_n 1, 1) := by decide +kernel
theorem d_Mo_seal_12 : decode b_Mo_seal 12 = .ok (.iconst 1, 1) := by decide +kernel
theorem d_Mo_seal_13 : decode b_Mo_seal 13 = .ok (.iadd, 1) := by decide +kernel
theorem d_Mo_seal_14 : decode b_Mo_seal 14 = .ok (.iload_n 3, 1) := by decide +kernel
theorem d_Mo_seal_15 : decode b_Mo_seal 15 = .ok (.iadd, 1) := by decide +kernel
theorem d_Mo_seal_16 : decode b_Mo_seal 16 = .ok (.aload_n 0, 1) := by decide +kernel
theorem d_Mo_seal_17 : decode b_Mo_seal 17 = .ok (.getfield 7, 3) := by decide +kernel
theorem d_Mo_seal_20 : decode b_Mo_seal 20 = .ok (.iload_n 1, 1) := by decide +kernel
theorem d_Mo_seal_21 : decode b_Mo_seal 21 = .ok (.bipush 14, 2) := by decide +kernel
theorem d_Mo_seal_23 : decode b_Mo_seal 23 = .ok (.iadd, 1) := by decide +kernel
theorem d_Mo_seal_24 : decode b_Mo_seal 24 = .ok (.iload_n 3, 1) := by decide +kernel
theorem d_Mo_seal_25 : decode b_Mo_seal 25 = .ok (.iadd, 1) := by decide +kernel
theorem d_Mo_seal_26 : decode b_Mo_seal 26 = .ok (.iaload, 1) := by decide +kernel
theorem d_Mo_seal_27 : decode b_Mo_seal 27 = .ok (.iload_n 3, 1) := by decide +kernel
theorem d_Mo_seal_28 : decode b_Mo_seal 28 = .ok (.invokestatic 52, 3) := by decide +kernel
theorem d_Mo_seal_31 : decode b_Mo_seal 31 = .ok (.iastore, 1) := by decide +kernel
theorem d_Mo_seal_32 : decode b_Mo_seal 32 = .ok (.iinc 3 (1), 3) := by decide +kernel
theorem d_Mo_seal_35 : decode b_Mo_seal 35 = .ok (.goto (-33), 3) := by decide +kernel
theorem d_Mo_seal_38 : decode b_Mo_seal 38 = .ok (.aload_n 0, 1) := by decide +kernel
theorem d_Mo_seal_39 : decode b_Mo_seal 39 = .ok (.iload_n 1, 1) := by decide +kernel
theorem d_Mo_seal_40 : decode b_Mo_seal 40 = .ok (.invokevirtual 77, 3) := by decide +kernel
theorem d_Mo_seal_43 : decode b_Mo_seal 43 = .ok (.iconst 0, 1) := by decide +kernel
theorem d_Mo_seal_44 : decode b_Mo_seal 44 = .ok (.istore_n 3, 1) := by decide +kernel
theorem d_Mo_seal_45 : decode b_Mo_seal 45 = .ok (.iload_n 3, 1) := by decide +kernel
theorem d_Mo_seal_46 : decode b_Mo_seal 46 = .ok (.bipush 6, 2) := by decide +kernel
theorem d_Mo_seal_48 : decode b_Mo_seal 48 = .ok (.if_icmp .ge (31), 3) := by decide +kernel
theorem d_Mo_seal_51 : decode b_Mo_seal 51 = .ok (.aload_n 0, 1) := by decide +kernel
theorem d_Mo_seal_52 : decode b_Mo_seal 52 = .ok (.getfield 7, 3) := by decide +kernel
theorem d_Mo_seal_55 : decode b_Mo_seal 55 = .ok (.iload_n 1, 1) := by decide +kernel
theorem d_Mo_seal_56 : decode b_Mo_seal 56 = .ok (.iconst 5, 1) := by decide +kernel
theorem d_Mo_seal_57 : decode b_Mo_seal 57 = .ok (.iadd, 1) := by decide +kernel
theorem d_Mo_seal_58 : decode b_Mo_seal 58 = .ok (.iload_n 3, 1) := by decide +kernel
theorem d_Mo_seal_59 : decode b_Mo_seal 59 = .ok (.iadd, 1) := by decide +kernel
theorem d_Mo_seal_60 : decode b_Mo_seal 60 = .ok (.aload_n 0, 1) := by decide +kernel
theorem d_Mo_seal_61 : decode b_Mo_seal 61 = .ok (.iload_n 2, 1) := by decide +kernel
theorem d_Mo_seal_62 : decode b_Mo_seal 62 = .ok (.iload_n 3, 1) := by decide +kernel
theorem d_Mo_seal_63 : decode b_Mo_seal 63 = .ok (.aload_n 0, 1) := by decide +kernel
theorem d_Mo_seal_64 : decode b_Mo_seal 64 = .ok (.getfield 23, 3) := by decide +kernel
theorem d_Mo_seal_67 : decode b_Mo_seal 67 = .ok (.iload_n 3, 1) := by decide +kernel
theorem d_Mo_seal_68 : decode b_Mo_seal 68 = .ok (.iaload, 1) := by decide +kernel
theorem d_Mo_seal_69 : decode b_Mo_seal 69 = .ok (.invokevirtual 59, 3) := by decide +kernel
theorem d_Mo_seal_72 : decode b_Mo_seal 72 = .ok (.iastore, 1) := by decide +kernel
theorem d_Mo_seal_73 : decode b_Mo_seal 73 = .ok (.iinc 3 (1), 3) := by decide +kernel
theorem d_Mo_seal_76 : decode b_Mo_seal 76 = .ok (.goto (-31), 3) := by decide +kernel
theorem d_Mo_seal_79 : decode b_Mo_seal 79 = .ok (.aload_n 0, 1) := by decide +kernel
theorem d_Mo_seal_80 : decode b_Mo_seal 80 = .ok (.invokevirtual 70, 3) := by decide +kernel
theorem d_Mo_seal_83 : decode b_Mo_seal 83 = .ok (.bipush 8, 2) := by decide +kernel
theorem d_Mo_seal_85 : decode b_Mo_seal 85 = .ok (.iload_n 2, 1) := by decide +kernel
theorem d_Mo_seal_86 : decode b_Mo_seal 86 = .ok (.iadd, 1) := by decide +kernel
theorem d_Mo_seal_87 : decode b_Mo_seal 87 = .ok (.istore_n 3, 1) := by decide +kernel
theorem d_Mo_seal_88 : decode b_Mo_seal 88 = .ok (.bipush 11, 2) := by decide +kernel
theorem d_Mo_seal_90 : decode b_Mo_seal 90 = .ok (.istore 4, 2) := by decide +kernel
theorem d_Mo_seal_92 : decode b_Mo_seal 92 = .ok (.iload 4, 2) := by decide +kernel
theorem d_Mo_seal_94 : decode b_Mo_seal 94 = .ok (.bipush 14, 2) := by decide +kernel
theorem d_Mo_seal_96 : decode b_Mo_seal 96 = .ok (.if_icmp .ge (42), 3) := by decide +kernel
theorem d_Mo_seal_99 : decode b_Mo_seal 99 = .ok (.aload_n 0, 1) := by decide +kernel
theorem d_Mo_seal_100 : decode b_Mo_seal 100 = .ok (.getfield 7, 3) := by decide +kernel
theorem d_Mo_seal_103 : decode b_Mo_seal 103 = .ok (.iload_n 1, 1) := by decide +kernel
theorem d_Mo_seal_104 : decode b_Mo_seal 104 = .ok (.iload 4, 2) := by decide +kernel
theorem d_Mo_seal_106 : decode b_Mo_seal 106 = .ok (.iadd, 1) := by decide +kernel
theorem d_Mo_seal_107 : decode b_Mo_seal 107 = .ok (.aload_n 0, 1) := by decide +kernel
theorem d_Mo_seal_108 : decode b_Mo_seal 108 = .ok (.getfield 29, 3) := by decide +kernel
theorem d_Mo_seal_111 : decode b_Mo_seal 111 = .ok (.iload_n 3, 1) := by decide +kernel
theorem d_Mo_seal_112 : decode b_Mo_seal 112 = .ok (.iconst 2, 1) := by decide +kernel
theorem d_Mo_seal_113 : decode b_Mo_seal 113 = .ok (.irem, 1) := by decide +kernel
theorem d_Mo_seal_114 : decode b_Mo_seal 114 = .ok (.ifCond .ne (9), 3) := by decide +kernel
theorem d_Mo_seal_117 : decode b_Mo_seal 117 = .ok (.iload_n 3, 1) := by decide +kernel
theorem d_Mo_seal_118 : decode b_Mo_seal 118 = .ok (.iconst 1, 1) := by decide +kernel
theorem d_Mo_seal_119 : decode b_Mo_seal 119 = .ok (.iadd, 1) := by decide +kernel
theorem d_Mo_seal_120 : decode b_Mo_seal 120 = .ok (.goto (6), 3) := by decide +kernel
theorem d_Mo_seal_123 : decode b_Mo_seal 123 = .ok (.iload_n 3, 1) := by decide +kernel
theorem d_Mo_seal_124 : decode b_Mo_seal 124 = .ok (.iconst 1, 1) := by decide +kernel
theorem d_Mo_seal_125 : decode b_Mo_seal 125 = .ok (.isub, 1) := by decide +kernel
theorem d_Mo_seal_126 : decode b_Mo_seal 126 = .ok (.iaload, 1) := by decide +kernel
theorem d_Mo_seal_127 : decode b_Mo_seal 127 = .ok (.iastore, 1) := by decide +kernel
theorem d_Mo_seal_128 : decode b_Mo_seal 128 = .ok (.iload_n 3, 1) := by decide +kernel
theorem d_Mo_seal_129 : decode b_Mo_seal 129 = .ok (.iconst 2, 1) := by decide +kernel
theorem d_Mo_seal_130 : decode b_Mo_seal 130 = .ok (.idiv, 1) := by decide +kernel
theorem d_Mo_seal_131 : decode b_Mo_seal 131 = .ok (.istore_n 3, 1) := by decide +kernel
theorem d_Mo_seal_132 : decode b_Mo_seal 132 = .ok (.iinc 4 (1), 3) := by decide +kernel
theorem d_Mo_seal_135 : decode b_Mo_seal 135 = .ok (.goto (-43), 3) := by decide +kernel
theorem d_Mo_seal_138 : decode b_Mo_seal 138 = .ok (.return_, 1) := by decide +kernel
theorem d_Mo_sign_0 : decode b_Mo_sign 0 = .ok (.iload_n 1, 1) := by decide +kernel
theorem d_Mo_sign_1 : decode b_Mo_sign 1 = .ok (.iconst 1, 1) := by decide +kernel
theorem d_Mo_sign_2 : decode b_Mo_sign 2 = .ok (.if_icmp .lt (18), 3) := by decide +kernel
theorem d_Mo_sign_5 : decode b_Mo_sign 5 = .ok (.iload_n 1, 1) := by decide +kernel
theorem d_Mo_sign_6 : decode b_Mo_sign 6 = .ok (.bipush 32, 2) := by decide +kernel
theorem d_Mo_sign_8 : decode b_Mo_sign 8 = .ok (.if_icmp .gt (12), 3) := by decide +kernel
theorem d_Mo_sign_11 : decode b_Mo_sign 11 = .ok (.aload_n 0, 1) := by decide +kernel
theorem d_Mo_sign_12 : decode b_Mo_sign 12 = .ok (.getfield 81, 3) := by decide +kernel
theorem d_Mo_sign_15 : decode b_Mo_sign 15 = .ok (.bipush 7, 2) := by decide +kernel
theorem d_Mo_sign_17 : decode b_Mo_sign 17 = .ok (.if_icmp .ne (5), 3) := by decide +kernel
theorem d_Mo_sign_20 : decode b_Mo_sign 20 = .ok (.iconst (-1), 1) := by decide +kernel
theorem d_Mo_sign_21 : decode b_Mo_sign 21 = .ok (.ireturn, 1) := by decide +kernel
theorem d_Mo_sign_22 : decode b_Mo_sign 22 = .ok (.bipush 40, 2) := by decide +kernel
theorem d_Mo_sign_24 : decode b_Mo_sign 24 = .ok (.bipush 17, 2) := by decide +kernel
theorem d_Mo_sign_26 : decode b_Mo_sign 26 = .ok (.aload_n 0, 1) := by decide +kernel
theorem d_Mo_sign_27 : decode b_Mo_sign 27 = .ok (.getfield 81, 3) := by decide +kernel
theorem d_Mo_sign_30 : decode b_Mo_sign 30 = .ok (.imul, 1) := by decide +kernel
theorem d_Mo_sign_31 : decode b_Mo_sign 31 = .ok (.iadd, 1) := by decide +kernel
theorem d_Mo_sign_32 : decode b_Mo_sign 32 = .ok (.istore 5, 2) := by decide +kernel
theorem d_Mo_sign_34 : decode b_Mo_sign 34 = .ok (.aload_n 0, 1) := by decide +kernel
theorem d_Mo_sign_35 : decode b_Mo_sign 35 = .ok (.dup, 1) := by decide +kernel
theorem d_Mo_sign_36 : decode b_Mo_sign 36 = .ok (.getfield 81, 3) := by decide +kernel
theorem d_Mo_sign_39 : decode b_Mo_sign 39 = .ok (.iconst 1, 1) := by decide +kernel
theorem d_Mo_sign_40 : decode b_Mo_sign 40 = .ok (.iadd, 1) := by decide +kernel
theorem d_Mo_sign_41 : decode b_Mo_sign 41 = .ok (.putfield 81, 3) := by decide +kernel
theorem d_Mo_sign_44 : decode b_Mo_sign 44 = .ok (.aload_n 0, 1) := by decide +kernel
theorem d_Mo_sign_45 : decode b_Mo_sign 45 = .ok (.iload 5, 2) := by decide +kernel
theorem d_Mo_sign_47 : decode b_Mo_sign 47 = .ok (.aload_n 0, 1) := by decide +kernel
theorem d_Mo_sign_48 : decode b_Mo_sign 48 = .ok (.getfield 81, 3) := by decide +kernel
theorem d_Mo_sign_51 : decode b_Mo_sign 51 = .ok (.iload_n 1, 1) := by decide +kernel
theorem d_Mo_sign_52 : decode b_Mo_sign 52 = .ok (.iload_n 2, 1) := by decide +kernel
theorem d_Mo_sign_53 : decode b_Mo_sign 53 = .ok (.invokevirtual 38, 3) := by decide +kernel
theorem d_Mo_sign_56 : decode b_Mo_sign 56 = .ok (.aload_n 0, 1) := by decide +kernel
theorem d_Mo_sign_57 : decode b_Mo_sign 57 = .ok (.getfield 7, 3) := by decide +kernel
theorem d_Mo_sign_60 : decode b_Mo_sign 60 = .ok (.iload 5, 2) := by decide +kernel
theorem d_Mo_sign_62 : decode b_Mo_sign 62 = .ok (.bipush 15, 2) := by decide +kernel
theorem d_Mo_sign_64 : decode b_Mo_sign 64 = .ok (.iadd, 1) := by decide +kernel
theorem d_Mo_sign_65 : decode b_Mo_sign 65 = .ok (.iload_n 3, 1) := by decide +kernel
theorem d_Mo_sign_66 : decode b_Mo_sign 66 = .ok (.iastore, 1) := by decide +kernel
theorem d_Mo_sign_67 : decode b_Mo_sign 67 = .ok (.aload_n 0, 1) := by decide +kernel
theorem d_Mo_sign_68 : decode b_Mo_sign 68 = .ok (.getfield 7, 3) := by decide +kernel
theorem d_Mo_sign_71 : decode b_Mo_sign 71 = .ok (.iload 5, 2) := by decide +kernel
theorem d_Mo_sign_73 : decode b_Mo_sign 73 = .ok (.bipush 16, 2) := by decide +kernel
theorem d_Mo_sign_75 : decode b_Mo_sign 75 = .ok (.iadd, 1) := by decide +kernel
theorem d_Mo_sign_76 : decode b_Mo_sign 76 = .ok (.iload 4, 2) := by decide +kernel
theorem d_Mo_sign_78 : decode b_Mo_sign 78 = .ok (.iastore, 1) := by decide +kernel
theorem d_Mo_sign_79 : decode b_Mo_sign 79 = .ok (.aload_n 0, 1) := by decide +kernel
theorem d_Mo_sign_80 : decode b_Mo_sign 80 = .ok (.iload 5, 2) := by decide +kernel
theorem d_Mo_sign_82 : decode b_Mo_sign 82 = .ok (.aload_n 0, 1) := by decide +kernel
theorem d_Mo_sign_83 : decode b_Mo_sign 83 = .ok (.getfield 81, 3) := by decide +kernel
theorem d_Mo_sign_86 : decode b_Mo_sign 86 = .ok (.invokevirtual 42, 3) := by decide +kernel
theorem d_Mo_sign_89 : decode b_Mo_sign 89 = .ok (.aload_n 0, 1) := by decide +kernel
theorem d_Mo_sign_90 : decode b_Mo_sign 90 = .ok (.getfield 81, 3) := by decide +kernel
theorem d_Mo_sign_93 : decode b_Mo_sign 93 = .ok (.iconst 1, 1) := by decide +kernel
theorem d_Mo_sign_94 : decode b_Mo_sign 94 = .ok (.isub, 1) := by decide +kernel
theorem d_Mo_sign_95 : decode b_Mo_sign 95 = .ok (.ireturn, 1) := by decide +kernel
theorem d_Mo_noWord_0 : decode b_Mo_noWord 0 = .ok (.iload_n 1, 1) := by decide +kernel
theorem d_Mo_noWord_1 : decode b_Mo_noWord 1 = .ok (.ifCond .lt (21), 3) := by decide +kernel
theorem d_Mo_noWord_4 : decode b_Mo_noWord 4 = .ok (.iload_n 1, 1) := by decide +kernel
theorem d_Mo_noWord_5 : decode b_Mo_noWord 5 = .ok (.aload_n 0, 1) := by decide +kernel
theorem d_Mo_noWord_6 : decode b_Mo_noWord 6 = .ok (.getfield 81, 3) := by decide +kernel
theorem d_Mo_noWord_9 : decode b_Mo_noWord 9 = .ok (.if_icmp .ge (13), 3) := by decide +kernel
theorem d_Mo_noWord_12 : decode b_Mo_noWord 12 = .ok (.iload_n 2, 1) := by decide +kernel
theorem d_Mo_noWord_13 : decode b_Mo_noWord 13 = .ok (.ifCond .lt (9), 3) := by decide +kernel
theorem d_Mo_noWord_16 : decode b_Mo_noWord 16 = .ok (.iload_n 2, 1) := by decide +kernel
theorem d_Mo_noWord_17 : decode b_Mo_noWord 17 = .ok (.bipush 16, 2) := by decide +kernel
theorem d_Mo_noWord_19 : decode b_Mo_noWord 19 = .ok (.if_icmp .le (7), 3) := by decide +kernel
theorem d_Mo_noWord_22 : decode b_Mo_noWord 22 = .ok (.iconst 1, 1) := by decide +kernel
theorem d_Mo_noWord_23 : decode b_Mo_noWord 23 = .ok (.goto (4), 3) := by decide +kernel
theorem d_Mo_noWord_26 : decode b_Mo_noWord 26 = .ok (.iconst 0, 1) := by decide +kernel
theorem d_Mo_noWord_27 : decode b_Mo_noWord 27 = .ok (.ireturn, 1) := by decide +kernel
theorem d_Mo_alter_0 : decode b_Mo_alter 0 = .ok (.aload_n 0, 1) := by decide +kernel
theorem d_Mo_alter_1 : decode b_Mo_alter 1 = .ok (.iload_n 1, 1) := by decide +kernel
theorem d_Mo_alter_2 : decode b_Mo_alter 2 = .ok (.iload_n 2, 1) := by decide +kernel
theorem d_Mo_alter_3 : decode b_Mo_alter 3 = .ok (.invokevirtual 84, 3) := by decide +kernel
theorem d_Mo_alter_6 : decode b_Mo_alter 6 = .ok (.ifCond .eq (5), 3) := by decide +kernel
theorem d_Mo_alter_9 : decode b_Mo_alter 9 = .ok (.iconst 0, 1) := by decide +kernel
theorem d_Mo_alter_10 : decode b_Mo_alter 10 = .ok (.ireturn, 1) := by decide +kernel
theorem d_Mo_alter_11 : decode b_Mo_alter 11 = .ok (.aload_n 0, 1) := by decide +kernel
theorem d_Mo_alter_12 : decode b_Mo_alter 12 = .ok (.getfield 7, 3) := by decide +kernel
theorem d_Mo_alter_15 : decode b_Mo_alter 15 = .ok (.bipush 40, 2) := by decide +kernel
theorem d_Mo_alter_17 : decode b_Mo_alter 17 = .ok (.bipush 17, 2) := by decide +kernel
theorem d_Mo_alter_19 : decode b_Mo_alter 19 = .ok (.iload_n 1, 1) := by decide +kernel
theorem d_Mo_alter_20 : decode b_Mo_alter 20 = .ok (.imul, 1) := by decide +kernel
theorem d_Mo_alter_21 : decode b_Mo_alter 21 = .ok (.iadd, 1) := by decide +kernel
theorem d_Mo_alter_22 : decode b_Mo_alter 22 = .ok (.iload_n 2, 1) := by decide +kernel
theorem d_Mo_alter_23 : decode b_Mo_alter 23 = .ok (.iadd, 1) := by decide +kernel
theorem d_Mo_alter_24 : decode b_Mo_alter 24 = .ok (.iload_n 3, 1) := by decide +kernel
theorem d_Mo_alter_25 : decode b_Mo_alter 25 = .ok (.iastore, 1) := by decide +kernel
theorem d_Mo_alter_26 : decode b_Mo_alter 26 = .ok (.iconst 1, 1) := by decide +kernel
theorem d_Mo_alter_27 : decode b_Mo_alter 27 = .ok (.ireturn, 1) := by decide +kernel
theorem d_Mo_word_0 : decode b_Mo_word 0 = .ok (.aload_n 0, 1) := by decide +kernel
theorem d_Mo_word_1 : decode b_Mo_word 1 = .ok (.iload_n 1, 1) := by decide +kernel
theorem d_Mo_word_2 : decode b_Mo_word 2 = .ok (.iload_n 2, 1) := by decide +kernel
theorem d_Mo_word_3 : decode b_Mo_word 3 = .ok (.invokevirtual 84, 3) := by decide +kernel
theorem d_Mo_word_6 : decode b_Mo_word 6 = .ok (.ifCond .eq (7), 3) := by decide +kernel
theorem d_Mo_word_9 : decode b_Mo_word 9 = .ok (.iconst 0, 1) := by decide +kernel
theorem d_Mo_word_10 : decode b_Mo_word 10 = .ok (.goto (17), 3) := by decide +kernel
theorem d_Mo_word_13 : decode b_Mo_word 13 = .ok (.aload_n 0, 1) := by decide +kernel
theorem d_Mo_word_14 : decode b_Mo_word 14 = .ok (.getfield 7, 3) := by decide +kernel
theorem d_Mo_word_17 : decode b_Mo_word 17 = .ok (.bipush 40, 2) := by decide +kernel
theorem d_Mo_word_19 : decode b_Mo_word 19 = .ok (.bipush 17, 2) := by decide +kernel
theorem d_Mo_word_21 : decode b_Mo_word 21 = .ok (.iload_n 1, 1) := by decide +kernel
theorem d_Mo_word_22 : decode b_Mo_word 22 = .ok (.imul, 1) := by decide +kernel
theorem d_Mo_word_23 : decode b_Mo_word 23 = .ok (.iadd, 1) := by decide +kernel
theorem d_Mo_word_24 : decode b_Mo_word 24 = .ok (.iload_n 2, 1) := by decide +kernel
theorem d_Mo_word_25 : decode b_Mo_word 25 = .ok (.iadd, 1) := by decide +kernel
theorem d_Mo_word_26 : decode b_Mo_word 26 = .ok (.iaload, 1) := by decide +kernel
theorem d_Mo_word_27 : decode b_Mo_word 27 = .ok (.ireturn, 1) := by decide +kernel
theorem d_Mo_stranger_0 : decode b_Mo_stranger 0 = .ok (.iconst 0, 1) := by decide +kernel
theorem d_Mo_stranger_1 : decode b_Mo_stranger 1 = .ok (.istore_n 2, 1) := by decide +kernel
theorem d_Mo_stranger_2 : decode b_Mo_stranger 2 = .ok (.iload_n 2, 1) := by decide +kernel
theorem d_Mo_stranger_3 : decode b_Mo_stranger 3 = .ok (.iconst 3, 1) := by decide +kernel
theorem d_Mo_stranger_4 : decode b_Mo_stranger 4 = .ok (.if_icmp .ge (37), 3) := by decide +kernel
theorem d_Mo_stranger_7 : decode b_Mo_stranger 7 = .ok (.aload_n 0, 1) := by decide +kernel
theorem d_Mo_stranger_8 : decode b_Mo_stranger 8 = .ok (.getfield 7, 3) := by decide +kernel
theorem d_Mo_stranger_11 : decode b_Mo_stranger 11 = .ok (.iload_n 1, 1) := by decide +kernel
theorem d_Mo_stranger_12 : decode b_Mo_stranger 12 = .ok (.iconst 1, 1) := by decide +kernel
theorem d_Mo_stranger_13 : decode b_Mo_stranger 13 = .ok (.iadd, 1) := by decide +kernel
theorem d_Mo_stranger_14 : decode b_Mo_stranger 14 = .ok (.iload_n 2, 1) := by decide +kernel
theorem d_Mo_stranger_15 : decode b_Mo_stranger 15 = .ok (.iadd, 1) := by decide +kernel
theorem d_Mo_stranger_16 : decode b_Mo_stranger 16 = .ok (.iaload, 1) := by decide +kernel
theorem d_Mo_stranger_17 : decode b_Mo_stranger 17 = .ok (.aload_n 0, 1) := by decide +kernel
theorem d_Mo_stranger_18 : decode b_Mo_stranger 18 = .ok (.getfield 7, 3) := by decide +kernel
theorem d_Mo_stranger_21 : decode b_Mo_stranger 21 = .ok (.iload_n 1, 1) := by decide +kernel
theorem d_Mo_stranger_22 : decode b_Mo_stranger 22 = .ok (.bipush 14, 2) := by decide +kernel
theorem d_Mo_stranger_24 : decode b_Mo_stranger 24 = .ok (.iadd, 1) := by decide +kernel
theorem d_Mo_stranger_25 : decode b_Mo_stranger 25 = .ok (.iload_n 2, 1) := by decide +kernel
theorem d_Mo_stranger_26 : decode b_Mo_stranger 26 = .ok (.iadd, 1) := by decide +kernel
theorem d_Mo_stranger_27 : decode b_Mo_stranger 27 = .ok (.iaload, 1) := by decide +kernel
theorem d_Mo_stranger_28 : decode b_Mo_stranger 28 = .ok (.iload_n 2, 1) := by decide +kernel
theorem d_Mo_stranger_29 : decode b_Mo_stranger 29 = .ok (.invokestatic 52, 3) := by decide +kernel
theorem d_Mo_stranger_32 : decode b_Mo_stranger 32 = .ok (.if_icmp .ne (9), 3) := by decide +kernel
theorem d_Mo_stranger_35 : decode b_Mo_stranger 35 = .ok (.iinc 2 (1), 3) := by decide +kernel
theorem d_Mo_stranger_38 : decode b_Mo_stranger 38 = .ok (.goto (-36), 3) := by decide +kernel
theorem d_Mo_stranger_41 : decode b_Mo_stranger 41 = .ok (.iload_n 2, 1) := by decide +kernel
theorem d_Mo_stranger_42 : decode b_Mo_stranger 42 = .ok (.ireturn, 1) := by decide +kernel
theorem d_Mo_fault_0 : decode b_Mo_fault 0 = .ok (.aload_n 0, 1) := by decide +kernel
theorem d_Mo_fault_1 : decode b_Mo_fault 1 = .ok (.iload_n 1, 1) := by decide +kernel
theorem d_Mo_fault_2 : decode b_Mo_fault 2 = .ok (.iconst 0, 1) := by decide +kernel
theorem d_Mo_fault_3 : decode b_Mo_fault 3 = .ok (.invokevirtual 84, 3) := by decide +kernel
theorem d_Mo_fault_6 : decode b_Mo_fault 6 = .ok (.ifCond .eq (5), 3) := by decide +kernel
theorem d_Mo_fault_9 : decode b_Mo_fault 9 = .ok (.iconst (-1), 1) := by decide +kernel
theorem d_Mo_fault_10 : decode b_Mo_fault 10 = .ok (.ireturn, 1) := by decide +kernel
theorem d_Mo_fault_11 : decode b_Mo_fault 11 = .ok (.bipush 40, 2) := by decide +kernel
theorem d_Mo_fault_13 : decode b_Mo_fault 13 = .ok (.bipush 17, 2) := by decide +kernel
theorem d_Mo_fault_15 : decode b_Mo_fault 15 = .ok (.iload_n 1, 1) := by decide +kernel
theorem d_Mo_fault_16 : decode b_Mo_fault 16 = .ok (.imul, 1) := by decide +kernel
theorem d_Mo_fault_17 : decode b_Mo_fault 17 = .ok (.iadd, 1) := by decide +kernel
theorem d_Mo_fault_18 : decode b_Mo_fault 18 = .ok (.istore_n 2, 1) := by decide +kernel
theorem d_Mo_fault_19 : decode b_Mo_fault 19 = .ok (.aload_n 0, 1) := by decide +kernel
theorem d_Mo_fault_20 : decode b_Mo_fault 20 = .ok (.getfield 7, 3) := by decide +kernel
theorem d_Mo_fault_23 : decode b_Mo_fault 23 = .ok (.iload_n 2, 1) := by decide +kernel
theorem d_Mo_fault_24 : decode b_Mo_fault 24 = .ok (.iaload, 1) := by decide +kernel
theorem d_Mo_fault_25 : decode b_Mo_fault 25 = .ok (.iconst 1, 1) := by decide +kernel
theorem d_Mo_fault_26 : decode b_Mo_fault 26 = .ok (.if_icmp .lt (14), 3) := by decide +kernel
theorem d_Mo_fault_29 : decode b_Mo_fault 29 = .ok (.aload_n 0, 1) := by decide +kernel
theorem d_Mo_fault_30 : decode b_Mo_fault 30 = .ok (.getfield 7, 3) := by decide +kernel
theorem d_Mo_fault_33 : decode b_Mo_fault 33 = .ok (.iload_n 2, 1) := by decide +kernel
theorem d_Mo_fault_34 : decode b_Mo_fault 34 = .ok (.iaload, 1) := by decide +kernel
theorem d_Mo_fault_35 : decode b_Mo_fault 35 = .ok (.bipush 32, 2) := by decide +kernel
theorem d_Mo_fault_37 : decode b_Mo_fault 37 = .ok (.if_icmp .le (5), 3) := by decide +kernel
theorem d_Mo_fault_40 : decode b_Mo_fault 40 = .ok (.iconst 1, 1) := by decide +kernel
end
section
theorem d_Mo_fault_41 : decode b_Mo_fault 41 = .ok (.ireturn, 1) := by decide +kernel
theorem d_Mo_fault_42 : decode b_Mo_fault 42 = .ok (.aload_n 0, 1) := by decide +kernel
theorem d_Mo_fault_43 : decode b_Mo_fault 43 = .ok (.iload_n 2, 1) := by decide +kernel
theorem d_Mo_fault_44 : decode b_Mo_fault 44 = .ok (.invokevirtual 88, 3) := by decide +kernel
theorem d_Mo_fault_47 : decode b_Mo_fault 47 = .ok (.istore_n 3, 1) := by decide +kernel
theorem d_Mo_fault_48 : decode b_Mo_fault 48 = .ok (.aload_n 0, 1) := by decide +kernel
theorem d_Mo_fault_49 : decode b_Mo_fault 49 = .ok (.iload_n 2, 1) := by decide +kernel
theorem d_Mo_fault_50 : decode b_Mo_fault 50 = .ok (.invokevirtual 91, 3) := by decide +kernel
theorem d_Mo_fault_53 : decode b_Mo_fault 53 = .ok (.ifCond .ne (7), 3) := by decide +kernel
theorem d_Mo_fault_56 : decode b_Mo_fault 56 = .ok (.iconst 2, 1) := by decide +kernel
theorem d_Mo_fault_57 : decode b_Mo_fault 57 = .ok (.goto (15), 3) := by decide +kernel
theorem d_Mo_fault_60 : decode b_Mo_fault 60 = .ok (.iload_n 3, 1) := by decide +kernel
theorem d_Mo_fault_61 : decode b_Mo_fault 61 = .ok (.iconst 3, 1) := by decide +kernel
theorem d_Mo_fault_62 : decode b_Mo_fault 62 = .ok (.if_icmp .ge (9), 3) := by decide +kernel
theorem d_Mo_fault_65 : decode b_Mo_fault 65 = .ok (.iconst 3, 1) := by decide +kernel
theorem d_Mo_fault_66 : decode b_Mo_fault 66 = .ok (.iload_n 3, 1) := by decide +kernel
theorem d_Mo_fault_67 : decode b_Mo_fault 67 = .ok (.iadd, 1) := by decide +kernel
theorem d_Mo_fault_68 : decode b_Mo_fault 68 = .ok (.goto (4), 3) := by decide +kernel
theorem d_Mo_fault_71 : decode b_Mo_fault 71 = .ok (.iconst 0, 1) := by decide +kernel
theorem d_Mo_fault_72 : decode b_Mo_fault 72 = .ok (.ireturn, 1) := by decide +kernel
theorem d_Mo_cut_0 : decode b_Mo_cut 0 = .ok (.iload_n 1, 1) := by decide +kernel
theorem d_Mo_cut_1 : decode b_Mo_cut 1 = .ok (.iconst (-1), 1) := by decide +kernel
theorem d_Mo_cut_2 : decode b_Mo_cut 2 = .ok (.if_icmp .ge (5), 3) := by decide +kernel
theorem d_Mo_cut_5 : decode b_Mo_cut 5 = .ok (.iconst 0, 1) := by decide +kernel
theorem d_Mo_cut_6 : decode b_Mo_cut 6 = .ok (.ireturn, 1) := by decide +kernel
theorem d_Mo_cut_7 : decode b_Mo_cut 7 = .ok (.aload_n 0, 1) := by decide +kernel
theorem d_Mo_cut_8 : decode b_Mo_cut 8 = .ok (.iload_n 1, 1) := by decide +kernel
theorem d_Mo_cut_9 : decode b_Mo_cut 9 = .ok (.putfield 13, 3) := by decide +kernel
theorem d_Mo_cut_12 : decode b_Mo_cut 12 = .ok (.iconst 1, 1) := by decide +kernel
theorem d_Mo_cut_13 : decode b_Mo_cut 13 = .ok (.ireturn, 1) := by decide +kernel
theorem d_Mo_may_0 : decode b_Mo_may 0 = .ok (.aload_n 0, 1) := by decide +kernel
theorem d_Mo_may_1 : decode b_Mo_may 1 = .ok (.getfield 95, 3) := by decide +kernel
theorem d_Mo_may_4 : decode b_Mo_may 4 = .ok (.ifCond .eq (5), 3) := by decide +kernel
theorem d_Mo_may_7 : decode b_Mo_may 7 = .ok (.iconst 0, 1) := by decide +kernel
theorem d_Mo_may_8 : decode b_Mo_may 8 = .ok (.ireturn, 1) := by decide +kernel
theorem d_Mo_may_9 : decode b_Mo_may 9 = .ok (.aload_n 0, 1) := by decide +kernel
theorem d_Mo_may_10 : decode b_Mo_may 10 = .ok (.getfield 13, 3) := by decide +kernel
theorem d_Mo_may_13 : decode b_Mo_may 13 = .ok (.ifCond .ne (15), 3) := by decide +kernel
theorem d_Mo_may_16 : decode b_Mo_may 16 = .ok (.aload_n 0, 1) := by decide +kernel
theorem d_Mo_may_17 : decode b_Mo_may 17 = .ok (.iconst 1, 1) := by decide +kernel
theorem d_Mo_may_18 : decode b_Mo_may 18 = .ok (.putfield 95, 3) := by decide +kernel
theorem d_Mo_may_21 : decode b_Mo_may 21 = .ok (.aload_n 0, 1) := by decide +kernel
theorem d_Mo_may_22 : decode b_Mo_may 22 = .ok (.iconst (-1), 1) := by decide +kernel
theorem d_Mo_may_23 : decode b_Mo_may 23 = .ok (.putfield 13, 3) := by decide +kernel
theorem d_Mo_may_26 : decode b_Mo_may 26 = .ok (.iconst 0, 1) := by decide +kernel
theorem d_Mo_may_27 : decode b_Mo_may 27 = .ok (.ireturn, 1) := by decide +kernel
theorem d_Mo_may_28 : decode b_Mo_may 28 = .ok (.aload_n 0, 1) := by decide +kernel
theorem d_Mo_may_29 : decode b_Mo_may 29 = .ok (.aload_n 0, 1) := by decide +kernel
theorem d_Mo_may_30 : decode b_Mo_may 30 = .ok (.getfield 13, 3) := by decide +kernel
theorem d_Mo_may_33 : decode b_Mo_may 33 = .ok (.ifCond .le (12), 3) := by decide +kernel
theorem d_Mo_may_36 : decode b_Mo_may 36 = .ok (.aload_n 0, 1) := by decide +kernel
theorem d_Mo_may_37 : decode b_Mo_may 37 = .ok (.getfield 13, 3) := by decide +kernel
theorem d_Mo_may_40 : decode b_Mo_may 40 = .ok (.iconst 1, 1) := by decide +kernel
theorem d_Mo_may_41 : decode b_Mo_may 41 = .ok (.isub, 1) := by decide +kernel
theorem d_Mo_may_42 : decode b_Mo_may 42 = .ok (.goto (7), 3) := by decide +kernel
theorem d_Mo_may_45 : decode b_Mo_may 45 = .ok (.aload_n 0, 1) := by decide +kernel
theorem d_Mo_may_46 : decode b_Mo_may 46 = .ok (.getfield 13, 3) := by decide +kernel
theorem d_Mo_may_49 : decode b_Mo_may 49 = .ok (.putfield 13, 3) := by decide +kernel
theorem d_Mo_may_52 : decode b_Mo_may 52 = .ok (.aload_n 0, 1) := by decide +kernel
theorem d_Mo_may_53 : decode b_Mo_may 53 = .ok (.dup, 1) := by decide +kernel
theorem d_Mo_may_54 : decode b_Mo_may 54 = .ok (.getfield 99, 3) := by decide +kernel
theorem d_Mo_may_57 : decode b_Mo_may 57 = .ok (.iconst 1, 1) := by decide +kernel
theorem d_Mo_may_58 : decode b_Mo_may 58 = .ok (.iadd, 1) := by decide +kernel
theorem d_Mo_may_59 : decode b_Mo_may 59 = .ok (.putfield 99, 3) := by decide +kernel
theorem d_Mo_may_62 : decode b_Mo_may 62 = .ok (.iconst 1, 1) := by decide +kernel
theorem d_Mo_may_63 : decode b_Mo_may 63 = .ok (.ireturn, 1) := by decide +kernel
theorem d_Mo_put_0 : decode b_Mo_put 0 = .ok (.aload_n 0, 1) := by decide +kernel
theorem d_Mo_put_1 : decode b_Mo_put 1 = .ok (.invokevirtual 102, 3) := by decide +kernel
theorem d_Mo_put_4 : decode b_Mo_put 4 = .ok (.ifCond .eq (10), 3) := by decide +kernel
theorem d_Mo_put_7 : decode b_Mo_put 7 = .ok (.aload_n 0, 1) := by decide +kernel
theorem d_Mo_put_8 : decode b_Mo_put 8 = .ok (.getfield 7, 3) := by decide +kernel
theorem d_Mo_put_11 : decode b_Mo_put 11 = .ok (.iload_n 1, 1) := by decide +kernel
theorem d_Mo_put_12 : decode b_Mo_put 12 = .ok (.iload_n 2, 1) := by decide +kernel
theorem d_Mo_put_13 : decode b_Mo_put 13 = .ok (.iastore, 1) := by decide +kernel
theorem d_Mo_put_14 : decode b_Mo_put 14 = .ok (.return_, 1) := by decide +kernel
theorem d_Mo_blow_0 : decode b_Mo_blow 0 = .ok (.iconst 0, 1) := by decide +kernel
theorem d_Mo_blow_1 : decode b_Mo_blow 1 = .ok (.istore_n 2, 1) := by decide +kernel
theorem d_Mo_blow_2 : decode b_Mo_blow 2 = .ok (.iload_n 2, 1) := by decide +kernel
theorem d_Mo_blow_3 : decode b_Mo_blow 3 = .ok (.bipush 32, 2) := by decide +kernel
theorem d_Mo_blow_5 : decode b_Mo_blow 5 = .ok (.if_icmp .ge (43), 3) := by decide +kernel
theorem d_Mo_blow_8 : decode b_Mo_blow 8 = .ok (.aload_n 0, 1) := by decide +kernel
theorem d_Mo_blow_9 : decode b_Mo_blow 9 = .ok (.getfield 35, 3) := by decide +kernel
theorem d_Mo_blow_12 : decode b_Mo_blow 12 = .ok (.iload_n 1, 1) := by decide +kernel
theorem d_Mo_blow_13 : decode b_Mo_blow 13 = .ok (.if_icmp .ge (29), 3) := by decide +kernel
theorem d_Mo_blow_16 : decode b_Mo_blow 16 = .ok (.aload_n 0, 1) := by decide +kernel
theorem d_Mo_blow_17 : decode b_Mo_blow 17 = .ok (.getfield 35, 3) := by decide +kernel
theorem d_Mo_blow_20 : decode b_Mo_blow 20 = .ok (.bipush 32, 2) := by decide +kernel
theorem d_Mo_blow_22 : decode b_Mo_blow 22 = .ok (.if_icmp .ge (20), 3) := by decide +kernel
theorem d_Mo_blow_25 : decode b_Mo_blow 25 = .ok (.aload_n 0, 1) := by decide +kernel
theorem d_Mo_blow_26 : decode b_Mo_blow 26 = .ok (.invokevirtual 102, 3) := by decide +kernel
theorem d_Mo_blow_29 : decode b_Mo_blow 29 = .ok (.ifCond .eq (13), 3) := by decide +kernel
theorem d_Mo_blow_32 : decode b_Mo_blow 32 = .ok (.aload_n 0, 1) := by decide +kernel
theorem d_Mo_blow_33 : decode b_Mo_blow 33 = .ok (.dup, 1) := by decide +kernel
theorem d_Mo_blow_34 : decode b_Mo_blow 34 = .ok (.getfield 35, 3) := by decide +kernel
theorem d_Mo_blow_37 : decode b_Mo_blow 37 = .ok (.iconst 1, 1) := by decide +kernel
theorem d_Mo_blow_38 : decode b_Mo_blow 38 = .ok (.iadd, 1) := by decide +kernel
theorem d_Mo_blow_39 : decode b_Mo_blow 39 = .ok (.putfield 35, 3) := by decide +kernel
theorem d_Mo_blow_42 : decode b_Mo_blow 42 = .ok (.iinc 2 (1), 3) := by decide +kernel
theorem d_Mo_blow_45 : decode b_Mo_blow 45 = .ok (.goto (-43), 3) := by decide +kernel
theorem d_Mo_blow_48 : decode b_Mo_blow 48 = .ok (.return_, 1) := by decide +kernel
theorem d_Mo_answer_0 : decode b_Mo_answer 0 = .ok (.aload_n 0, 1) := by decide +kernel
theorem d_Mo_answer_1 : decode b_Mo_answer 1 = .ok (.getfield 95, 3) := by decide +kernel
theorem d_Mo_answer_4 : decode b_Mo_answer 4 = .ok (.ifCond .ne (5), 3) := by decide +kernel
theorem d_Mo_answer_7 : decode b_Mo_answer 7 = .ok (.iload_n 1, 1) := by decide +kernel
theorem d_Mo_answer_8 : decode b_Mo_answer 8 = .ok (.ireturn, 1) := by decide +kernel
theorem d_Mo_answer_9 : decode b_Mo_answer 9 = .ok (.aload_n 0, 1) := by decide +kernel
theorem d_Mo_answer_10 : decode b_Mo_answer 10 = .ok (.iconst 0, 1) := by decide +kernel
theorem d_Mo_answer_11 : decode b_Mo_answer 11 = .ok (.putfield 95, 3) := by decide +kernel
theorem d_Mo_answer_14 : decode b_Mo_answer 14 = .ok (.aload_n 0, 1) := by decide +kernel
theorem d_Mo_answer_15 : decode b_Mo_answer 15 = .ok (.iconst (-1), 1) := by decide +kernel
theorem d_Mo_answer_16 : decode b_Mo_answer 16 = .ok (.putfield 17, 3) := by decide +kernel
theorem d_Mo_answer_19 : decode b_Mo_answer 19 = .ok (.aload_n 0, 1) := by decide +kernel
theorem d_Mo_answer_20 : decode b_Mo_answer 20 = .ok (.iconst 0, 1) := by decide +kernel
theorem d_Mo_answer_21 : decode b_Mo_answer 21 = .ok (.putfield 106, 3) := by decide +kernel
theorem d_Mo_answer_24 : decode b_Mo_answer 24 = .ok (.aload_n 0, 1) := by decide +kernel
theorem d_Mo_answer_25 : decode b_Mo_answer 25 = .ok (.iconst 0, 1) := by decide +kernel
theorem d_Mo_answer_26 : decode b_Mo_answer 26 = .ok (.putfield 109, 3) := by decide +kernel
theorem d_Mo_answer_29 : decode b_Mo_answer 29 = .ok (.aload_n 0, 1) := by decide +kernel
theorem d_Mo_answer_30 : decode b_Mo_answer 30 = .ok (.iconst 0, 1) := by decide +kernel
theorem d_Mo_answer_31 : decode b_Mo_answer 31 = .ok (.putfield 112, 3) := by decide +kernel
theorem d_Mo_answer_34 : decode b_Mo_answer 34 = .ok (.iconst (-1), 1) := by decide +kernel
theorem d_Mo_answer_35 : decode b_Mo_answer 35 = .ok (.ireturn, 1) := by decide +kernel
theorem d_Mo_good_0 : decode b_Mo_good 0 = .ok (.bipush 34, 2) := by decide +kernel
theorem d_Mo_good_2 : decode b_Mo_good 2 = .ok (.iconst 3, 1) := by decide +kernel
theorem d_Mo_good_3 : decode b_Mo_good 3 = .ok (.iload_n 1, 1) := by decide +kernel
theorem d_Mo_good_4 : decode b_Mo_good 4 = .ok (.imul, 1) := by decide +kernel
theorem d_Mo_good_5 : decode b_Mo_good 5 = .ok (.iadd, 1) := by decide +kernel
theorem d_Mo_good_6 : decode b_Mo_good 6 = .ok (.istore_n 2, 1) := by decide +kernel
theorem d_Mo_good_7 : decode b_Mo_good 7 = .ok (.aload_n 0, 1) := by decide +kernel
theorem d_Mo_good_8 : decode b_Mo_good 8 = .ok (.getfield 7, 3) := by decide +kernel
theorem d_Mo_good_11 : decode b_Mo_good 11 = .ok (.iload_n 2, 1) := by decide +kernel
theorem d_Mo_good_12 : decode b_Mo_good 12 = .ok (.iconst 2, 1) := by decide +kernel
theorem d_Mo_good_13 : decode b_Mo_good 13 = .ok (.iadd, 1) := by decide +kernel
theorem d_Mo_good_14 : decode b_Mo_good 14 = .ok (.iaload, 1) := by decide +kernel
theorem d_Mo_good_15 : decode b_Mo_good 15 = .ok (.aload_n 0, 1) := by decide +kernel
theorem d_Mo_good_16 : decode b_Mo_good 16 = .ok (.getfield 7, 3) := by decide +kernel
theorem d_Mo_good_19 : decode b_Mo_good 19 = .ok (.iload_n 2, 1) := by decide +kernel
theorem d_Mo_good_20 : decode b_Mo_good 20 = .ok (.iaload, 1) := by decide +kernel
theorem d_Mo_good_21 : decode b_Mo_good 21 = .ok (.aload_n 0, 1) := by decide +kernel
theorem d_Mo_good_22 : decode b_Mo_good 22 = .ok (.getfield 7, 3) := by decide +kernel
theorem d_Mo_good_25 : decode b_Mo_good 25 = .ok (.iload_n 2, 1) := by decide +kernel
theorem d_Mo_good_26 : decode b_Mo_good 26 = .ok (.iconst 1, 1) := by decide +kernel
theorem d_Mo_good_27 : decode b_Mo_good 27 = .ok (.iadd, 1) := by decide +kernel
theorem d_Mo_good_28 : decode b_Mo_good 28 = .ok (.iaload, 1) := by decide +kernel
theorem d_Mo_good_29 : decode b_Mo_good 29 = .ok (.invokestatic 46, 3) := by decide +kernel
theorem d_Mo_good_32 : decode b_Mo_good 32 = .ok (.if_icmp .ne (7), 3) := by decide +kernel
theorem d_Mo_good_35 : decode b_Mo_good 35 = .ok (.iconst 1, 1) := by decide +kernel
theorem d_Mo_good_36 : decode b_Mo_good 36 = .ok (.goto (4), 3) := by decide +kernel
theorem d_Mo_good_39 : decode b_Mo_good 39 = .ok (.iconst 0, 1) := by decide +kernel
theorem d_Mo_good_40 : decode b_Mo_good 40 = .ok (.ireturn, 1) := by decide +kernel
theorem d_Mo_current_0 : decode b_Mo_current 0 = .ok (.aload_n 0, 1) := by decide +kernel
theorem d_Mo_current_1 : decode b_Mo_current 1 = .ok (.iconst 0, 1) := by decide +kernel
theorem d_Mo_current_2 : decode b_Mo_current 2 = .ok (.invokevirtual 115, 3) := by decide +kernel
theorem d_Mo_current_5 : decode b_Mo_current 5 = .ok (.istore_n 1, 1) := by decide +kernel
theorem d_Mo_current_6 : decode b_Mo_current 6 = .ok (.aload_n 0, 1) := by decide +kernel
theorem d_Mo_current_7 : decode b_Mo_current 7 = .ok (.iconst 1, 1) := by decide +kernel
theorem d_Mo_current_8 : decode b_Mo_current 8 = .ok (.invokevirtual 115, 3) := by decide +kernel
theorem d_Mo_current_11 : decode b_Mo_current 11 = .ok (.istore_n 2, 1) := by decide +kernel
theorem d_Mo_current_12 : decode b_Mo_current 12 = .ok (.iload_n 1, 1) := by decide +kernel
theorem d_Mo_current_13 : decode b_Mo_current 13 = .ok (.ifCond .eq (32), 3) := by decide +kernel
theorem d_Mo_current_16 : decode b_Mo_current 16 = .ok (.iload_n 2, 1) := by decide +kernel
theorem d_Mo_current_17 : decode b_Mo_current 17 = .ok (.ifCond .eq (28), 3) := by decide +kernel
theorem d_Mo_current_20 : decode b_Mo_current 20 = .ok (.aload_n 0, 1) := by decide +kernel
theorem d_Mo_current_21 : decode b_Mo_current 21 = .ok (.getfield 7, 3) := by decide +kernel
theorem d_Mo_current_24 : decode b_Mo_current 24 = .ok (.bipush 37, 2) := by decide +kernel
theorem d_Mo_current_26 : decode b_Mo_current 26 = .ok (.iaload, 1) := by decide +kernel
theorem d_Mo_current_27 : decode b_Mo_current 27 = .ok (.aload_n 0, 1) := by decide +kernel
theorem d_Mo_current_28 : decode b_Mo_current 28 = .ok (.getfield 7, 3) := by decide +kernel
theorem d_Mo_current_31 : decode b_Mo_current 31 = .ok (.bipush 34, 2) := by decide +kernel
theorem d_Mo_current_33 : decode b_Mo_current 33 = .ok (.iaload, 1) := by decide +kernel
theorem d_Mo_current_34 : decode b_Mo_current 34 = .ok (.if_icmp .le (7), 3) := by decide +kernel
theorem d_Mo_current_37 : decode b_Mo_current 37 = .ok (.iconst 1, 1) := by decide +kernel
theorem d_Mo_current_38 : decode b_Mo_current 38 = .ok (.goto (24), 3) := by decide +kernel
theorem d_Mo_current_41 : decode b_Mo_current 41 = .ok (.iconst 0, 1) := by decide +kernel
theorem d_Mo_current_42 : decode b_Mo_current 42 = .ok (.goto (20), 3) := by decide +kernel
theorem d_Mo_current_45 : decode b_Mo_current 45 = .ok (.iload_n 1, 1) := by decide +kernel
theorem d_Mo_current_46 : decode b_Mo_current 46 = .ok (.ifCond .eq (7), 3) := by decide +kernel
theorem d_Mo_current_49 : decode b_Mo_current 49 = .ok (.iconst 0, 1) := by decide +kernel
theorem d_Mo_current_50 : decode b_Mo_current 50 = .ok (.goto (12), 3) := by decide +kernel
theorem d_Mo_current_53 : decode b_Mo_current 53 = .ok (.iload_n 2, 1) := by decide +kernel
theorem d_Mo_current_54 : decode b_Mo_current 54 = .ok (.ifCond .eq (7), 3) := by decide +kernel
theorem d_Mo_current_57 : decode b_Mo_current 57 = .ok (.iconst 1, 1) := by decide +kernel
theorem d_Mo_current_58 : decode b_Mo_current 58 = .ok (.goto (4), 3) := by decide +kernel
theorem d_Mo_current_61 : decode b_Mo_current 61 = .ok (.iconst (-1), 1) := by decide +kernel
theorem d_Mo_current_62 : decode b_Mo_current 62 = .ok (.ireturn, 1) := by decide +kernel
theorem d_Mo_entry_0 : decode b_Mo_entry 0 = .ok (.aload_n 0, 1) := by decide +kernel
theorem d_Mo_entry_1 : decode b_Mo_entry 1 = .ok (.invokevirtual 118, 3) := by decide +kernel
theorem d_Mo_entry_4 : decode b_Mo_entry 4 = .ok (.istore_n 1, 1) := by decide +kernel
theorem d_Mo_entry_5 : decode b_Mo_entry 5 = .ok (.iload_n 1, 1) := by decide +kernel
theorem d_Mo_entry_6 : decode b_Mo_entry 6 = .ok (.ifCond .ge (7), 3) := by decide +kernel
theorem d_Mo_entry_9 : decode b_Mo_entry 9 = .ok (.iconst 0, 1) := by decide +kernel
theorem d_Mo_entry_10 : decode b_Mo_entry 10 = .ok (.goto (14), 3) := by decide +kernel
theorem d_Mo_entry_13 : decode b_Mo_entry 13 = .ok (.aload_n 0, 1) := by decide +kernel
theorem d_Mo_entry_14 : decode b_Mo_entry 14 = .ok (.getfield 7, 3) := by decide +kernel
theorem d_Mo_entry_17 : decode b_Mo_entry 17 = .ok (.bipush 35, 2) := by decide +kernel
theorem d_Mo_entry_19 : decode b_Mo_entry 19 = .ok (.iconst 3, 1) := by decide +kernel
theorem d_Mo_entry_20 : decode b_Mo_entry 20 = .ok (.iload_n 1, 1) := by decide +kernel
theorem d_Mo_entry_21 : decode b_Mo_entry 21 = .ok (.imul, 1) := by decide +kernel
theorem d_Mo_entry_22 : decode b_Mo_entry 22 = .ok (.iadd, 1) := by decide +kernel
theorem d_Mo_entry_23 : decode b_Mo_entry 23 = .ok (.iaload, 1) := by decide +kernel
theorem d_Mo_entry_24 : decode b_Mo_entry 24 = .ok (.ireturn, 1) := by decide +kernel
theorem d_Mo_home_0 : decode b_Mo_home 0 = .ok (.aload_n 0, 1) := by decide +kernel
theorem d_Mo_home_1 : decode b_Mo_home 1 = .ok (.invokevirtual 121, 3) := by decide +kernel
theorem d_Mo_home_4 : decode b_Mo_home 4 = .ok (.iconst 1, 1) := by decide +kernel
theorem d_Mo_home_5 : decode b_Mo_home 5 = .ok (.iand, 1) := by decide +kernel
theorem d_Mo_home_6 : decode b_Mo_home 6 = .ok (.ireturn, 1) := by decide +kernel
theorem d_Mo_state_0 : decode b_Mo_state 0 = .ok (.iload_n 1, 1) := by decide +kernel
theorem d_Mo_state_1 : decode b_Mo_state 1 = .ok (.ifCond .eq (8), 3) := by decide +kernel
theorem d_Mo_state_4 : decode b_Mo_state 4 = .ok (.iload_n 1, 1) := by decide +kernel
theorem d_Mo_state_5 : decode b_Mo_state 5 = .ok (.iconst 1, 1) := by decide +kernel
theorem d_Mo_state_6 : decode b_Mo_state 6 = .ok (.if_icmp .ne (18), 3) := by decide +kernel
theorem d_Mo_state_9 : decode b_Mo_state 9 = .ok (.aload_n 0, 1) := by decide +kernel
theorem d_Mo_state_10 : decode b_Mo_state 10 = .ok (.invokevirtual 121, 3) := by decide +kernel
theorem d_Mo_state_13 : decode b_Mo_state 13 = .ok (.iconst 1, 1) := by decide +kernel
theorem d_Mo_state_14 : decode b_Mo_state 14 = .ok (.iconst 2, 1) := by decide +kernel
theorem d_Mo_state_15 : decode b_Mo_state 15 = .ok (.iload_n 1, 1) := by decide +kernel
theorem d_Mo_state_16 : decode b_Mo_state 16 = .ok (.imul, 1) := by decide +kernel
theorem d_Mo_state_17 : decode b_Mo_state 17 = .ok (.iadd, 1) := by decide +kernel
theorem d_Mo_state_18 : decode b_Mo_state 18 = .ok (.ishr, 1) := by decide +kernel
theorem d_Mo_state_19 : decode b_Mo_state 19 = .ok (.iconst 3, 1) := by decide +kernel
theorem d_Mo_state_20 : decode b_Mo_state 20 = .ok (.iand, 1) := by decide +kernel
theorem d_Mo_state_21 : decode b_Mo_state 21 = .ok (.goto (4), 3) := by decide +kernel
theorem d_Mo_state_24 : decode b_Mo_state 24 = .ok (.iconst (-1), 1) := by decide +kernel
theorem d_Mo_state_25 : decode b_Mo_state 25 = .ok (.ireturn, 1) := by decide +kernel
theorem d_Mo_table_0 : decode b_Mo_table 0 = .ok (.aload_n 0, 1) := by decide +kernel
theorem d_Mo_table_1 : decode b_Mo_table 1 = .ok (.invokevirtual 118, 3) := by decide +kernel
theorem d_Mo_table_4 : decode b_Mo_table 4 = .ok (.istore 4, 2) := by decide +kernel
theorem d_Mo_table_6 : decode b_Mo_table 6 = .ok (.iconst 1, 1) := by decide +kernel
theorem d_Mo_table_7 : decode b_Mo_table 7 = .ok (.iload 4, 2) := by decide +kernel
theorem d_Mo_table_9 : decode b_Mo_table 9 = .ok (.ifCond .ge (7), 3) := by decide +kernel
theorem d_Mo_table_12 : decode b_Mo_table 12 = .ok (.iconst 0, 1) := by decide +kernel
theorem d_Mo_table_13 : decode b_Mo_table 13 = .ok (.goto (15), 3) := by decide +kernel
theorem d_Mo_table_16 : decode b_Mo_table 16 = .ok (.aload_n 0, 1) := by decide +kernel
theorem d_Mo_table_17 : decode b_Mo_table 17 = .ok (.getfield 7, 3) := by decide +kernel
theorem d_Mo_table_20 : decode b_Mo_table 20 = .ok (.bipush 34, 2) := by decide +kernel
theorem d_Mo_table_22 : decode b_Mo_table 22 = .ok (.iconst 3, 1) := by decide +kernel
theorem d_Mo_table_23 : decode b_Mo_table 23 = .ok (.iload 4, 2) := by decide +kernel
theorem d_Mo_table_25 : decode b_Mo_table 25 = .ok (.imul, 1) := by decide +kernel
theorem d_Mo_table_26 : decode b_Mo_table 26 = .ok (.iadd, 1) := by decide +kernel
theorem d_Mo_table_27 : decode b_Mo_table 27 = .ok (.iaload, 1) := by decide +kernel
theorem d_Mo_table_28 : decode b_Mo_table 28 = .ok (.iadd, 1) := by decide +kernel
theorem d_Mo_table_29 : decode b_Mo_table 29 = .ok (.istore 5, 2) := by decide +kernel
theorem d_Mo_table_31 : decode b_Mo_table 31 = .ok (.aload_n 0, 1) := by decide +kernel
theorem d_Mo_table_32 : decode b_Mo_table 32 = .ok (.iconst 1, 1) := by decide +kernel
theorem d_Mo_table_33 : decode b_Mo_table 33 = .ok (.iload_n 1, 1) := by decide +kernel
theorem d_Mo_table_34 : decode b_Mo_table 34 = .ok (.isub, 1) := by decide +kernel
theorem d_Mo_table_35 : decode b_Mo_table 35 = .ok (.invokevirtual 124, 3) := by decide +kernel
theorem d_Mo_table_38 : decode b_Mo_table 38 = .ok (.istore 6, 2) := by decide +kernel
theorem d_Mo_table_40 : decode b_Mo_table 40 = .ok (.iload_n 3, 1) := by decide +kernel
theorem d_Mo_table_41 : decode b_Mo_table 41 = .ok (.iload_n 1, 1) := by decide +kernel
theorem d_Mo_table_42 : decode b_Mo_table 42 = .ok (.ifCond .ne (15), 3) := by decide +kernel
theorem d_Mo_table_45 : decode b_Mo_table 45 = .ok (.iconst 2, 1) := by decide +kernel
theorem d_Mo_table_46 : decode b_Mo_table 46 = .ok (.iload_n 2, 1) := by decide +kernel
theorem d_Mo_table_47 : decode b_Mo_table 47 = .ok (.imul, 1) := by decide +kernel
theorem d_Mo_table_48 : decode b_Mo_table 48 = .ok (.bipush 8, 2) := by decide +kernel
theorem d_Mo_table_50 : decode b_Mo_table 50 = .ok (.iload 6, 2) := by decide +kernel
theorem d_Mo_table_52 : decode b_Mo_table 52 = .ok (.imul, 1) := by decide +kernel
theorem d_Mo_table_53 : decode b_Mo_table 53 = .ok (.iadd, 1) := by decide +kernel
theorem d_Mo_table_54 : decode b_Mo_table 54 = .ok (.goto (12), 3) := by decide +kernel
theorem d_Mo_table_57 : decode b_Mo_table 57 = .ok (.iconst 2, 1) := by decide +kernel
theorem d_Mo_table_58 : decode b_Mo_table 58 = .ok (.iload 6, 2) := by decide +kernel
theorem d_Mo_table_60 : decode b_Mo_table 60 = .ok (.imul, 1) := by decide +kernel
theorem d_Mo_table_61 : decode b_Mo_table 61 = .ok (.bipush 8, 2) := by decide +kernel
theorem d_Mo_table_63 : decode b_Mo_table 63 = .ok (.iload_n 2, 1) := by decide +kernel
theorem d_Mo_table_64 : decode b_Mo_table 64 = .ok (.imul, 1) := by decide +kernel
theorem d_Mo_table_65 : decode b_Mo_table 65 = .ok (.iadd, 1) := by decide +kernel
theorem d_Mo_table_66 : decode b_Mo_table 66 = .ok (.iadd, 1) := by decide +kernel
theorem d_Mo_table_67 : decode b_Mo_table 67 = .ok (.istore 7, 2) := by decide +kernel
theorem d_Mo_table_69 : decode b_Mo_table 69 = .ok (.iload 4, 2) := by decide +kernel
theorem d_Mo_table_71 : decode b_Mo_table 71 = .ok (.ifCond .ne (8), 3) := by decide +kernel
theorem d_Mo_table_74 : decode b_Mo_table 74 = .ok (.bipush 37, 2) := by decide +kernel
theorem d_Mo_table_76 : decode b_Mo_table 76 = .ok (.goto (5), 3) := by decide +kernel
theorem d_Mo_table_79 : decode b_Mo_table 79 = .ok (.bipush 34, 2) := by decide +kernel
theorem d_Mo_table_81 : decode b_Mo_table 81 = .ok (.istore 8, 2) := by decide +kernel
theorem d_Mo_table_83 : decode b_Mo_table 83 = .ok (.aload_n 0, 1) := by decide +kernel
theorem d_Mo_table_84 : decode b_Mo_table 84 = .ok (.iload 8, 2) := by decide +kernel
theorem d_Mo_table_86 : decode b_Mo_table 86 = .ok (.iload 5, 2) := by decide +kernel
theorem d_Mo_table_88 : decode b_Mo_table 88 = .ok (.invokevirtual 127, 3) := by decide +kernel
theorem d_Mo_table_91 : decode b_Mo_table 91 = .ok (.aload_n 0, 1) := by decide +kernel
theorem d_Mo_table_92 : decode b_Mo_table 92 = .ok (.iload 8, 2) := by decide +kernel
theorem d_Mo_table_94 : decode b_Mo_table 94 = .ok (.iconst 1, 1) := by decide +kernel
theorem d_Mo_table_95 : decode b_Mo_table 95 = .ok (.iadd, 1) := by decide +kernel
theorem d_Mo_table_96 : decode b_Mo_table 96 = .ok (.iload 7, 2) := by decide +kernel
theorem d_Mo_table_98 : decode b_Mo_table 98 = .ok (.invokevirtual 127, 3) := by decide +kernel
theorem d_Mo_table_101 : decode b_Mo_table 101 = .ok (.aload_n 0, 1) := by decide +kernel
theorem d_Mo_table_102 : decode b_Mo_table 102 = .ok (.iload 8, 2) := by decide +kernel
theorem d_Mo_table_104 : decode b_Mo_table 104 = .ok (.iconst 2, 1) := by decide +kernel
theorem d_Mo_table_105 : decode b_Mo_table 105 = .ok (.iadd, 1) := by decide +kernel
theorem d_Mo_table_106 : decode b_Mo_table 106 = .ok (.iload 5, 2) := by decide +kernel
theorem d_Mo_table_108 : decode b_Mo_table 108 = .ok (.iload 7, 2) := by decide +kernel
theorem d_Mo_table_110 : decode b_Mo_table 110 = .ok (.invokestatic 46, 3) := by decide +kernel
theorem d_Mo_table_113 : decode b_Mo_table 113 = .ok (.invokevirtual 127, 3) := by decide +kernel
theorem d_Mo_table_116 : decode b_Mo_table 116 = .ok (.return_, 1) := by decide +kernel
theorem d_Mo_attempt_0 : decode b_Mo_attempt 0 = .ok (.aload_n 0, 1) := by decide +kernel
theorem d_Mo_attempt_1 : decode b_Mo_attempt 1 = .ok (.iconst 0, 1) := by decide +kernel
theorem d_Mo_attempt_2 : decode b_Mo_attempt 2 = .ok (.putfield 109, 3) := by decide +kernel
theorem d_Mo_attempt_5 : decode b_Mo_attempt 5 = .ok (.aload_n 0, 1) := by decide +kernel
theorem d_Mo_attempt_6 : decode b_Mo_attempt 6 = .ok (.iconst 0, 1) := by decide +kernel
theorem d_Mo_attempt_7 : decode b_Mo_attempt 7 = .ok (.putfield 112, 3) := by decide +kernel
theorem d_Mo_attempt_10 : decode b_Mo_attempt 10 = .ok (.bipush 17, 2) := by decide +kernel
theorem d_Mo_attempt_12 : decode b_Mo_attempt 12 = .ok (.iload_n 1, 1) := by decide +kernel
theorem d_Mo_attempt_13 : decode b_Mo_attempt 13 = .ok (.imul, 1) := by decide +kernel
theorem d_Mo_attempt_14 : decode b_Mo_attempt 14 = .ok (.istore_n 2, 1) := by decide +kernel
theorem d_Mo_attempt_15 : decode b_Mo_attempt 15 = .ok (.aload_n 0, 1) := by decide +kernel
theorem d_Mo_attempt_16 : decode b_Mo_attempt 16 = .ok (.getfield 7, 3) := by decide +kernel
theorem d_Mo_attempt_19 : decode b_Mo_attempt 19 = .ok (.iload_n 2, 1) := by decide +kernel
theorem d_Mo_attempt_20 : decode b_Mo_attempt 20 = .ok (.iaload, 1) := by decide +kernel
theorem d_Mo_attempt_21 : decode b_Mo_attempt 21 = .ok (.istore_n 3, 1) := by decide +kernel
theorem d_Mo_attempt_22 : decode b_Mo_attempt 22 = .ok (.iload_n 3, 1) := by decide +kernel
theorem d_Mo_attempt_23 : decode b_Mo_attempt 23 = .ok (.iconst 1, 1) := by decide +kernel
theorem d_Mo_attempt_24 : decode b_Mo_attempt 24 = .ok (.if_icmp .lt (25), 3) := by decide +kernel
theorem d_Mo_attempt_27 : decode b_Mo_attempt 27 = .ok (.iload_n 3, 1) := by decide +kernel
theorem d_Mo_attempt_28 : decode b_Mo_attempt 28 = .ok (.bipush 32, 2) := by decide +kernel
theorem d_Mo_attempt_30 : decode b_Mo_attempt 30 = .ok (.if_icmp .gt (19), 3) := by decide +kernel
theorem d_Mo_attempt_33 : decode b_Mo_attempt 33 = .ok (.iload_n 3, 1) := by decide +kernel
theorem d_Mo_attempt_34 : decode b_Mo_attempt 34 = .ok (.aload_n 0, 1) := by decide +kernel
theorem d_Mo_attempt_35 : decode b_Mo_attempt 35 = .ok (.getfield 35, 3) := by decide +kernel
theorem d_Mo_attempt_38 : decode b_Mo_attempt 38 = .ok (.if_icmp .lt (11), 3) := by decide +kernel
theorem d_Mo_attempt_41 : decode b_Mo_attempt 41 = .ok (.aload_n 0, 1) := by decide +kernel
theorem d_Mo_attempt_42 : decode b_Mo_attempt 42 = .ok (.iload_n 2, 1) := by decide +kernel
theorem d_Mo_attempt_43 : decode b_Mo_attempt 43 = .ok (.invokevirtual 91, 3) := by decide +kernel
theorem d_Mo_attempt_46 : decode b_Mo_attempt 46 = .ok (.ifCond .ne (5), 3) := by decide +kernel
theorem d_Mo_attempt_49 : decode b_Mo_attempt 49 = .ok (.iconst 0, 1) := by decide +kernel
theorem d_Mo_attempt_50 : decode b_Mo_attempt 50 = .ok (.ireturn, 1) := by decide +kernel
theorem d_Mo_attempt_51 : decode b_Mo_attempt 51 = .ok (.aload_n 0, 1) := by decide +kernel
theorem d_Mo_attempt_52 : decode b_Mo_attempt 52 = .ok (.iload_n 2, 1) := by decide +kernel
theorem d_Mo_attempt_53 : decode b_Mo_attempt 53 = .ok (.invokevirtual 88, 3) := by decide +kernel
theorem d_Mo_attempt_56 : decode b_Mo_attempt 56 = .ok (.istore 4, 2) := by decide +kernel
theorem d_Mo_attempt_58 : decode b_Mo_attempt 58 = .ok (.iconst 0, 1) := by decide +kernel
theorem d_Mo_attempt_59 : decode b_Mo_attempt 59 = .ok (.istore 5, 2) := by decide +kernel
theorem d_Mo_attempt_61 : decode b_Mo_attempt 61 = .ok (.iload 5, 2) := by decide +kernel
theorem d_Mo_attempt_63 : decode b_Mo_attempt 63 = .ok (.iload 4, 2) := by decide +kernel
theorem d_Mo_attempt_65 : decode b_Mo_attempt 65 = .ok (.if_icmp .ge (45), 3) := by decide +kernel
theorem d_Mo_attempt_68 : decode b_Mo_attempt 68 = .ok (.aload_n 0, 1) := by decide +kernel
theorem d_Mo_attempt_69 : decode b_Mo_attempt 69 = .ok (.getfield 20, 3) := by decide +kernel
theorem d_Mo_attempt_72 : decode b_Mo_attempt 72 = .ok (.iload 5, 2) := by decide +kernel
theorem d_Mo_attempt_74 : decode b_Mo_attempt 74 = .ok (.aload_n 0, 1) := by decide +kernel
theorem d_Mo_attempt_75 : decode b_Mo_attempt 75 = .ok (.getfield 7, 3) := by decide +kernel
theorem d_Mo_attempt_78 : decode b_Mo_attempt 78 = .ok (.iload_n 2, 1) := by decide +kernel
theorem d_Mo_attempt_79 : decode b_Mo_attempt 79 = .ok (.iconst 1, 1) := by decide +kernel
theorem d_Mo_attempt_80 : decode b_Mo_attempt 80 = .ok (.iadd, 1) := by decide +kernel
theorem d_Mo_attempt_81 : decode b_Mo_attempt 81 = .ok (.iload 5, 2) := by decide +kernel
theorem d_Mo_attempt_83 : decode b_Mo_attempt 83 = .ok (.iadd, 1) := by decide +kernel
theorem d_Mo_attempt_84 : decode b_Mo_attempt 84 = .ok (.iaload, 1) := by decide +kernel
theorem d_Mo_attempt_85 : decode b_Mo_attempt 85 = .ok (.iastore, 1) := by decide +kernel
theorem d_Mo_attempt_86 : decode b_Mo_attempt 86 = .ok (.aload_n 0, 1) := by decide +kernel
theorem d_Mo_attempt_87 : decode b_Mo_attempt 87 = .ok (.aload_n 0, 1) := by decide +kernel
theorem d_Mo_attempt_88 : decode b_Mo_attempt 88 = .ok (.getfield 112, 3) := by decide +kernel
theorem d_Mo_attempt_91 : decode b_Mo_attempt 91 = .ok (.aload_n 0, 1) := by decide +kernel
theorem d_Mo_attempt_92 : decode b_Mo_attempt 92 = .ok (.getfield 20, 3) := by decide +kernel
theorem d_Mo_attempt_95 : decode b_Mo_attempt 95 = .ok (.iload 5, 2) := by decide +kernel
theorem d_Mo_attempt_97 : decode b_Mo_attempt 97 = .ok (.iaload, 1) := by decide +kernel
theorem d_Mo_attempt_98 : decode b_Mo_attempt 98 = .ok (.invokestatic 52, 3) := by decide +kernel
theorem d_Mo_attempt_101 : decode b_Mo_attempt 101 = .ok (.putfield 112, 3) := by decide +kernel
theorem d_Mo_attempt_104 : decode b_Mo_attempt 104 = .ok (.iinc 5 (1), 3) := by decide +kernel
theorem d_Mo_attempt_107 : decode b_Mo_attempt 107 = .ok (.goto (-46), 3) := by decide +kernel
theorem d_Mo_attempt_110 : decode b_Mo_attempt 110 = .ok (.aload_n 0, 1) := by decide +kernel
theorem d_Mo_attempt_111 : decode b_Mo_attempt 111 = .ok (.iload 4, 2) := by decide +kernel
theorem d_Mo_attempt_113 : decode b_Mo_attempt 113 = .ok (.putfield 109, 3) := by decide +kernel
theorem d_Mo_attempt_116 : decode b_Mo_attempt 116 = .ok (.iload 4, 2) := by decide +kernel
theorem d_Mo_attempt_118 : decode b_Mo_attempt 118 = .ok (.iconst 3, 1) := by decide +kernel
theorem d_Mo_attempt_119 : decode b_Mo_attempt 119 = .ok (.if_icmp .ne (7), 3) := by decide +kernel
theorem d_Mo_attempt_122 : decode b_Mo_attempt 122 = .ok (.iconst 1, 1) := by decide +kernel
theorem d_Mo_attempt_123 : decode b_Mo_attempt 123 = .ok (.goto (4), 3) := by decide +kernel
theorem d_Mo_attempt_126 : decode b_Mo_attempt 126 = .ok (.iconst 0, 1) := by decide +kernel
theorem d_Mo_attempt_127 : decode b_Mo_attempt 127 = .ok (.ireturn, 1) := by decide +kernel
theorem d_Mo_update_0 : decode b_Mo_update 0 = .ok (.aload_n 0, 1) := by decide +kernel
theorem d_Mo_update_1 : decode b_Mo_update 1 = .ok (.iload_n 1, 1) := by decide +kernel
theorem d_Mo_update_2 : decode b_Mo_update 2 = .ok (.iconst 0, 1) := by decide +kernel
theorem d_Mo_update_3 : decode b_Mo_update 3 = .ok (.invokevirtual 84, 3) := by decide +kernel
theorem d_Mo_update_6 : decode b_Mo_update 6 = .ok (.ifCond .ne (18), 3) := by decide +kernel
theorem d_Mo_update_9 : decode b_Mo_update 9 = .ok (.aload_n 0, 1) := by decide +kernel
theorem d_Mo_update_10 : decode b_Mo_update 10 = .ok (.getfield 17, 3) := by decide +kernel
theorem d_Mo_update_13 : decode b_Mo_update 13 = .ok (.iconst (-1), 1) := by decide +kernel
theorem d_Mo_update_14 : decode b_Mo_update 14 = .ok (.if_icmp .eq (10), 3) := by decide +kernel
theorem d_Mo_update_17 : decode b_Mo_update 17 = .ok (.aload_n 0, 1) := by decide +kernel
theorem d_Mo_update_18 : decode b_Mo_update 18 = .ok (.getfield 106, 3) := by decide +kernel
theorem d_Mo_update_21 : decode b_Mo_update 21 = .ok (.ifCond .eq (6), 3) := by decide +kernel
theorem d_Mo_update_24 : decode b_Mo_update 24 = .ok (.bipush (-2), 2) := by decide +kernel
theorem d_Mo_update_26 : decode b_Mo_update 26 = .ok (.ireturn, 1) := by decide +kernel
theorem d_Mo_update_27 : decode b_Mo_update 27 = .ok (.aload_n 0, 1) := by decide +kernel
theorem d_Mo_update_28 : decode b_Mo_update 28 = .ok (.getfield 17, 3) := by decide +kernel
theorem d_Mo_update_31 : decode b_Mo_update 31 = .ok (.iconst 2, 1) := by decide +kernel
theorem d_Mo_update_32 : decode b_Mo_update 32 = .ok (.if_icmp .ne (12), 3) := by decide +kernel
theorem d_Mo_update_35 : decode b_Mo_update 35 = .ok (.iconst 1, 1) := by decide +kernel
theorem d_Mo_update_36 : decode b_Mo_update 36 = .ok (.aload_n 0, 1) := by decide +kernel
theorem d_Mo_update_37 : decode b_Mo_update 37 = .ok (.invokevirtual 130, 3) := by decide +kernel
theorem d_Mo_update_40 : decode b_Mo_update 40 = .ok (.isub, 1) := by decide +kernel
theorem d_Mo_update_41 : decode b_Mo_update 41 = .ok (.goto (9), 3) := by decide +kernel
theorem d_Mo_update_44 : decode b_Mo_update 44 = .ok (.iconst 1, 1) := by decide +kernel
theorem d_Mo_update_45 : decode b_Mo_update 45 = .ok (.aload_n 0, 1) := by decide +kernel
theorem d_Mo_update_46 : decode b_Mo_update 46 = .ok (.getfield 17, 3) := by decide +kernel
theorem d_Mo_update_49 : decode b_Mo_update 49 = .ok (.isub, 1) := by decide +kernel
theorem d_Mo_update_50 : decode b_Mo_update 50 = .ok (.istore_n 2, 1) := by decide +kernel
theorem d_Mo_update_51 : decode b_Mo_update 51 = .ok (.aload_n 0, 1) := by decide +kernel
theorem d_Mo_update_52 : decode b_Mo_update 52 = .ok (.iload_n 2, 1) := by decide +kernel
theorem d_Mo_update_53 : decode b_Mo_update 53 = .ok (.iconst 0, 1) := by decide +kernel
theorem d_Mo_update_54 : decode b_Mo_update 54 = .ok (.iconst 1, 1) := by decide +kernel
theorem d_Mo_update_55 : decode b_Mo_update 55 = .ok (.iload_n 2, 1) := by decide +kernel
theorem d_Mo_update_56 : decode b_Mo_update 56 = .ok (.isub, 1) := by decide +kernel
theorem d_Mo_update_57 : decode b_Mo_update 57 = .ok (.invokevirtual 133, 3) := by decide +kernel
theorem d_Mo_update_60 : decode b_Mo_update 60 = .ok (.iconst 0, 1) := by decide +kernel
theorem d_Mo_update_61 : decode b_Mo_update 61 = .ok (.istore_n 3, 1) := by decide +kernel
theorem d_Mo_update_62 : decode b_Mo_update 62 = .ok (.iload_n 3, 1) := by decide +kernel
theorem d_Mo_update_63 : decode b_Mo_update 63 = .ok (.bipush 17, 2) := by decide +kernel
theorem d_Mo_update_65 : decode b_Mo_update 65 = .ok (.if_icmp .ge (33), 3) := by decide +kernel
theorem d_Mo_update_68 : decode b_Mo_update 68 = .ok (.aload_n 0, 1) := by decide +kernel
theorem d_Mo_update_69 : decode b_Mo_update 69 = .ok (.bipush 17, 2) := by decide +kernel
theorem d_Mo_update_71 : decode b_Mo_update 71 = .ok (.iload_n 2, 1) := by decide +kernel
theorem d_Mo_update_72 : decode b_Mo_update 72 = .ok (.imul, 1) := by decide +kernel
theorem d_Mo_update_73 : decode b_Mo_update 73 = .ok (.iload_n 3, 1) := by decide +kernel
theorem d_Mo_update_74 : decode b_Mo_update 74 = .ok (.iadd, 1) := by decide +kernel
theorem d_Mo_update_75 : decode b_Mo_update 75 = .ok (.aload_n 0, 1) := by decide +kernel
theorem d_Mo_update_76 : decode b_Mo_update 76 = .ok (.getfield 7, 3) := by decide +kernel
theorem d_Mo_update_79 : decode b_Mo_update 79 = .ok (.bipush 40, 2) := by decide +kernel
theorem d_Mo_update_81 : decode b_Mo_update 81 = .ok (.bipush 17, 2) := by decide +kernel
theorem d_Mo_update_83 : decode b_Mo_update 83 = .ok (.iload_n 1, 1) := by decide +kernel
theorem d_Mo_update_84 : decode b_Mo_update 84 = .ok (.imul, 1) := by decide +kernel
theorem d_Mo_update_85 : decode b_Mo_update 85 = .ok (.iadd, 1) := by decide +kernel
theorem d_Mo_update_86 : decode b_Mo_update 86 = .ok (.iload_n 3, 1) := by decide +kernel
theorem d_Mo_update_87 : decode b_Mo_update 87 = .ok (.iadd, 1) := by decide +kernel
theorem d_Mo_update_88 : decode b_Mo_update 88 = .ok (.iaload, 1) := by decide +kernel
theorem d_Mo_update_89 : decode b_Mo_update 89 = .ok (.invokevirtual 127, 3) := by decide +kernel
theorem d_Mo_update_92 : decode b_Mo_update 92 = .ok (.iinc 3 (1), 3) := by decide +kernel
theorem d_Mo_update_95 : decode b_Mo_update 95 = .ok (.goto (-33), 3) := by decide +kernel
theorem d_Mo_update_98 : decode b_Mo_update 98 = .ok (.aload_n 0, 1) := by decide +kernel
theorem d_Mo_update_99 : decode b_Mo_update 99 = .ok (.iload_n 2, 1) := by decide +kernel
theorem d_Mo_update_100 : decode b_Mo_update 100 = .ok (.iconst 2, 1) := by decide +kernel
theorem d_Mo_update_101 : decode b_Mo_update 101 = .ok (.aload_n 0, 1) := by decide +kernel
theorem d_Mo_update_102 : decode b_Mo_update 102 = .ok (.invokevirtual 130, 3) := by decide +kernel
theorem d_Mo_update_105 : decode b_Mo_update 105 = .ok (.invokevirtual 133, 3) := by decide +kernel
theorem d_Mo_update_108 : decode b_Mo_update 108 = .ok (.aload_n 0, 1) := by decide +kernel
theorem d_Mo_update_109 : decode b_Mo_update 109 = .ok (.iconst 0, 1) := by decide +kernel
theorem d_Mo_update_110 : decode b_Mo_update 110 = .ok (.invokevirtual 137, 3) := by decide +kernel
theorem d_Mo_update_113 : decode b_Mo_update 113 = .ok (.ireturn, 1) := by decide +kernel
theorem d_Mo_boot_0 : decode b_Mo_boot 0 = .ok (.aload_n 0, 1) := by decide +kernel
theorem d_Mo_boot_1 : decode b_Mo_boot 1 = .ok (.iconst (-1), 1) := by decide +kernel
theorem d_Mo_boot_2 : decode b_Mo_boot 2 = .ok (.putfield 17, 3) := by decide +kernel
theorem d_Mo_boot_5 : decode b_Mo_boot 5 = .ok (.aload_n 0, 1) := by decide +kernel
theorem d_Mo_boot_6 : decode b_Mo_boot 6 = .ok (.iconst 0, 1) := by decide +kernel
theorem d_Mo_boot_7 : decode b_Mo_boot 7 = .ok (.putfield 106, 3) := by decide +kernel
theorem d_Mo_boot_10 : decode b_Mo_boot 10 = .ok (.iconst 1, 1) := by decide +kernel
theorem d_Mo_boot_11 : decode b_Mo_boot 11 = .ok (.aload_n 0, 1) := by decide +kernel
theorem d_Mo_boot_12 : decode b_Mo_boot 12 = .ok (.invokevirtual 130, 3) := by decide +kernel
theorem d_Mo_boot_15 : decode b_Mo_boot 15 = .ok (.isub, 1) := by decide +kernel
theorem d_Mo_boot_16 : decode b_Mo_boot 16 = .ok (.istore_n 1, 1) := by decide +kernel
theorem d_Mo_boot_17 : decode b_Mo_boot 17 = .ok (.aload_n 0, 1) := by decide +kernel
theorem d_Mo_boot_18 : decode b_Mo_boot 18 = .ok (.iload_n 1, 1) := by decide +kernel
theorem d_Mo_boot_19 : decode b_Mo_boot 19 = .ok (.invokevirtual 124, 3) := by decide +kernel
theorem d_Mo_boot_22 : decode b_Mo_boot 22 = .ok (.iconst 2, 1) := by decide +kernel
theorem d_Mo_boot_23 : decode b_Mo_boot 23 = .ok (.if_icmp .ne (7), 3) := by decide +kernel
theorem d_Mo_boot_26 : decode b_Mo_boot 26 = .ok (.iload_n 1, 1) := by decide +kernel
theorem d_Mo_boot_27 : decode b_Mo_boot 27 = .ok (.goto (21), 3) := by decide +kernel
theorem d_Mo_boot_30 : decode b_Mo_boot 30 = .ok (.aload_n 0, 1) := by decide +kernel
theorem d_Mo_boot_31 : decode b_Mo_boot 31 = .ok (.iconst 1, 1) := by decide +kernel
theorem d_Mo_boot_32 : decode b_Mo_boot 32 = .ok (.iload_n 1, 1) := by decide +kernel
theorem d_Mo_boot_33 : decode b_Mo_boot 33 = .ok (.isub, 1) := by decide +kernel
theorem d_Mo_boot_34 : decode b_Mo_boot 34 = .ok (.invokevirtual 124, 3) := by decide +kernel
theorem d_Mo_boot_37 : decode b_Mo_boot 37 = .ok (.iconst 2, 1) := by decide +kernel
theorem d_Mo_boot_38 : decode b_Mo_boot 38 = .ok (.if_icmp .ne (9), 3) := by decide +kernel
theorem d_Mo_boot_41 : decode b_Mo_boot 41 = .ok (.iconst 1, 1) := by decide +kernel
theorem d_Mo_boot_42 : decode b_Mo_boot 42 = .ok (.iload_n 1, 1) := by decide +kernel
theorem d_Mo_boot_43 : decode b_Mo_boot 43 = .ok (.isub, 1) := by decide +kernel
theorem d_Mo_boot_44 : decode b_Mo_boot 44 = .ok (.goto (4), 3) := by decide +kernel
theorem d_Mo_boot_47 : decode b_Mo_boot 47 = .ok (.iconst (-1), 1) := by decide +kernel
theorem d_Mo_boot_48 : decode b_Mo_boot 48 = .ok (.istore_n 2, 1) := by decide +kernel
theorem d_Mo_boot_49 : decode b_Mo_boot 49 = .ok (.iload_n 2, 1) := by decide +kernel
theorem d_Mo_boot_50 : decode b_Mo_boot 50 = .ok (.ifCond .lt (37), 3) := by decide +kernel
theorem d_Mo_boot_53 : decode b_Mo_boot 53 = .ok (.aload_n 0, 1) := by decide +kernel
theorem d_Mo_boot_54 : decode b_Mo_boot 54 = .ok (.iload_n 2, 1) := by decide +kernel
theorem d_Mo_boot_55 : decode b_Mo_boot 55 = .ok (.iconst 1, 1) := by decide +kernel
theorem d_Mo_boot_56 : decode b_Mo_boot 56 = .ok (.aload_n 0, 1) := by decide +kernel
theorem d_Mo_boot_57 : decode b_Mo_boot 57 = .ok (.invokevirtual 130, 3) := by decide +kernel
theorem d_Mo_boot_60 : decode b_Mo_boot 60 = .ok (.invokevirtual 133, 3) := by decide +kernel
theorem d_Mo_boot_63 : decode b_Mo_boot 63 = .ok (.aload_n 0, 1) := by decide +kernel
theorem d_Mo_boot_64 : decode b_Mo_boot 64 = .ok (.iload_n 2, 1) := by decide +kernel
theorem d_Mo_boot_65 : decode b_Mo_boot 65 = .ok (.invokevirtual 140, 3) := by decide +kernel
theorem d_Mo_boot_68 : decode b_Mo_boot 68 = .ok (.ifCond .eq (19), 3) := by decide +kernel
theorem d_Mo_boot_71 : decode b_Mo_boot 71 = .ok (.aload_n 0, 1) := by decide +kernel
theorem d_Mo_boot_72 : decode b_Mo_boot 72 = .ok (.iload_n 2, 1) := by decide +kernel
theorem d_Mo_boot_73 : decode b_Mo_boot 73 = .ok (.putfield 17, 3) := by decide +kernel
theorem d_Mo_boot_76 : decode b_Mo_boot 76 = .ok (.aload_n 0, 1) := by decide +kernel
theorem d_Mo_boot_77 : decode b_Mo_boot 77 = .ok (.iconst 1, 1) := by decide +kernel
theorem d_Mo_boot_78 : decode b_Mo_boot 78 = .ok (.putfield 106, 3) := by decide +kernel
theorem d_Mo_boot_81 : decode b_Mo_boot 81 = .ok (.aload_n 0, 1) := by decide +kernel
theorem d_Mo_boot_82 : decode b_Mo_boot 82 = .ok (.iload_n 2, 1) := by decide +kernel
theorem d_Mo_boot_83 : decode b_Mo_boot 83 = .ok (.invokevirtual 137, 3) := by decide +kernel
theorem d_Mo_boot_86 : decode b_Mo_boot 86 = .ok (.ireturn, 1) := by decide +kernel
theorem d_Mo_boot_87 : decode b_Mo_boot 87 = .ok (.aload_n 0, 1) := by decide +kernel
theorem d_Mo_boot_88 : decode b_Mo_boot 88 = .ok (.invokevirtual 130, 3) := by decide +kernel
theorem d_Mo_boot_91 : decode b_Mo_boot 91 = .ok (.istore_n 3, 1) := by decide +kernel
theorem d_Mo_boot_92 : decode b_Mo_boot 92 = .ok (.iconst 0, 1) := by decide +kernel
theorem d_Mo_boot_93 : decode b_Mo_boot 93 = .ok (.istore 4, 2) := by decide +kernel
theorem d_Mo_boot_95 : decode b_Mo_boot 95 = .ok (.iload 4, 2) := by decide +kernel
theorem d_Mo_boot_97 : decode b_Mo_boot 97 = .ok (.iconst 2, 1) := by decide +kernel
theorem d_Mo_boot_98 : decode b_Mo_boot 98 = .ok (.if_icmp .ge (69), 3) := by decide +kernel
theorem d_Mo_boot_101 : decode b_Mo_boot 101 = .ok (.iload 4, 2) := by decide +kernel
theorem d_Mo_boot_103 : decode b_Mo_boot 103 = .ok (.ifCond .ne (7), 3) := by decide +kernel
theorem d_Mo_boot_106 : decode b_Mo_boot 106 = .ok (.iload_n 3, 1) := by decide +kernel
theorem d_Mo_boot_107 : decode b_Mo_boot 107 = .ok (.goto (6), 3) := by decide +kernel
theorem d_Mo_boot_110 : decode b_Mo_boot 110 = .ok (.iconst 1, 1) := by decide +kernel
theorem d_Mo_boot_111 : decode b_Mo_boot 111 = .ok (.iload_n 3, 1) := by decide +kernel
theorem d_Mo_boot_112 : decode b_Mo_boot 112 = .ok (.isub, 1) := by decide +kernel
theorem d_Mo_boot_113 : decode b_Mo_boot 113 = .ok (.istore 5, 2) := by decide +kernel
theorem d_Mo_boot_115 : decode b_Mo_boot 115 = .ok (.aload_n 0, 1) := by decide +kernel
theorem d_Mo_boot_116 : decode b_Mo_boot 116 = .ok (.iload 5, 2) := by decide +kernel
theorem d_Mo_boot_118 : decode b_Mo_boot 118 = .ok (.invokevirtual 124, 3) := by decide +kernel
theorem d_Mo_boot_121 : decode b_Mo_boot 121 = .ok (.iconst 3, 1) := by decide +kernel
theorem d_Mo_boot_122 : decode b_Mo_boot 122 = .ok (.if_icmp .ne (39), 3) := by decide +kernel
theorem d_Mo_boot_125 : decode b_Mo_boot 125 = .ok (.aload_n 0, 1) := by decide +kernel
theorem d_Mo_boot_126 : decode b_Mo_boot 126 = .ok (.iload 5, 2) := by decide +kernel
theorem d_Mo_boot_128 : decode b_Mo_boot 128 = .ok (.invokevirtual 140, 3) := by decide +kernel
theorem d_Mo_boot_131 : decode b_Mo_boot 131 = .ok (.ifCond .eq (30), 3) := by decide +kernel
theorem d_Mo_boot_134 : decode b_Mo_boot 134 = .ok (.aload_n 0, 1) := by decide +kernel
theorem d_Mo_boot_135 : decode b_Mo_boot 135 = .ok (.aload_n 0, 1) := by decide +kernel
theorem d_Mo_boot_136 : decode b_Mo_boot 136 = .ok (.getfield 7, 3) := by decide +kernel
theorem d_Mo_boot_139 : decode b_Mo_boot 139 = .ok (.bipush 17, 2) := by decide +kernel
theorem d_Mo_boot_141 : decode b_Mo_boot 141 = .ok (.iload 5, 2) := by decide +kernel
theorem d_Mo_boot_143 : decode b_Mo_boot 143 = .ok (.imul, 1) := by decide +kernel
theorem d_Mo_boot_144 : decode b_Mo_boot 144 = .ok (.iaload, 1) := by decide +kernel
theorem d_Mo_boot_145 : decode b_Mo_boot 145 = .ok (.invokevirtual 143, 3) := by decide +kernel
theorem d_Mo_boot_148 : decode b_Mo_boot 148 = .ok (.aload_n 0, 1) := by decide +kernel
theorem d_Mo_boot_149 : decode b_Mo_boot 149 = .ok (.iload 5, 2) := by decide +kernel
theorem d_Mo_boot_151 : decode b_Mo_boot 151 = .ok (.putfield 17, 3) := by decide +kernel
theorem d_Mo_boot_154 : decode b_Mo_boot 154 = .ok (.aload_n 0, 1) := by decide +kernel
theorem d_Mo_boot_155 : decode b_Mo_boot 155 = .ok (.iload 5, 2) := by decide +kernel
theorem d_Mo_boot_157 : decode b_Mo_boot 157 = .ok (.invokevirtual 137, 3) := by decide +kernel
theorem d_Mo_boot_160 : decode b_Mo_boot 160 = .ok (.ireturn, 1) := by decide +kernel
theorem d_Mo_boot_161 : decode b_Mo_boot 161 = .ok (.iinc 4 (1), 3) := by decide +kernel
theorem d_Mo_boot_164 : decode b_Mo_boot 164 = .ok (.goto (-69), 3) := by decide +kernel
theorem d_Mo_boot_167 : decode b_Mo_boot 167 = .ok (.aload_n 0, 1) := by decide +kernel
theorem d_Mo_boot_168 : decode b_Mo_boot 168 = .ok (.iconst 0, 1) := by decide +kernel
theorem d_Mo_boot_169 : decode b_Mo_boot 169 = .ok (.putfield 109, 3) := by decide +kernel
theorem d_Mo_boot_172 : decode b_Mo_boot 172 = .ok (.aload_n 0, 1) := by decide +kernel
theorem d_Mo_boot_173 : decode b_Mo_boot 173 = .ok (.iconst 0, 1) := by decide +kernel
theorem d_Mo_boot_174 : decode b_Mo_boot 174 = .ok (.putfield 112, 3) := by decide +kernel
theorem d_Mo_boot_177 : decode b_Mo_boot 177 = .ok (.aload_n 0, 1) := by decide +kernel
theorem d_Mo_boot_178 : decode b_Mo_boot 178 = .ok (.iconst 2, 1) := by decide +kernel
theorem d_Mo_boot_179 : decode b_Mo_boot 179 = .ok (.putfield 17, 3) := by decide +kernel
theorem d_Mo_boot_182 : decode b_Mo_boot 182 = .ok (.aload_n 0, 1) := by decide +kernel
theorem d_Mo_boot_183 : decode b_Mo_boot 183 = .ok (.iconst 2, 1) := by decide +kernel
theorem d_Mo_boot_184 : decode b_Mo_boot 184 = .ok (.invokevirtual 137, 3) := by decide +kernel
theorem d_Mo_boot_187 : decode b_Mo_boot 187 = .ok (.ireturn, 1) := by decide +kernel
theorem d_Mo_confirm_0 : decode b_Mo_confirm 0 = .ok (.aload_n 0, 1) := by decide +kernel
theorem d_Mo_confirm_1 : decode b_Mo_confirm 1 = .ok (.getfield 106, 3) := by decide +kernel
theorem d_Mo_confirm_4 : decode b_Mo_confirm 4 = .ok (.ifCond .ne (6), 3) := by decide +kernel
theorem d_Mo_confirm_7 : decode b_Mo_confirm 7 = .ok (.bipush (-2), 2) := by decide +kernel
theorem d_Mo_confirm_9 : decode b_Mo_confirm 9 = .ok (.ireturn, 1) := by decide +kernel
theorem d_Mo_confirm_10 : decode b_Mo_confirm 10 = .ok (.aload_n 0, 1) := by decide +kernel
theorem d_Mo_confirm_11 : decode b_Mo_confirm 11 = .ok (.aload_n 0, 1) := by decide +kernel
theorem d_Mo_confirm_12 : decode b_Mo_confirm 12 = .ok (.getfield 17, 3) := by decide +kernel
theorem d_Mo_confirm_15 : decode b_Mo_confirm 15 = .ok (.iconst 3, 1) := by decide +kernel
theorem d_Mo_confirm_16 : decode b_Mo_confirm 16 = .ok (.aload_n 0, 1) := by decide +kernel
theorem d_Mo_confirm_17 : decode b_Mo_confirm 17 = .ok (.getfield 17, 3) := by decide +kernel
theorem d_Mo_confirm_20 : decode b_Mo_confirm 20 = .ok (.invokevirtual 133, 3) := by decide +kernel
theorem d_Mo_confirm_23 : decode b_Mo_confirm 23 = .ok (.aload_n 0, 1) := by decide +kernel
theorem d_Mo_confirm_24 : decode b_Mo_confirm 24 = .ok (.aload_n 0, 1) := by decide +kernel
theorem d_Mo_confirm_25 : decode b_Mo_confirm 25 = .ok (.getfield 7, 3) := by decide +kernel
theorem d_Mo_confirm_28 : decode b_Mo_confirm 28 = .ok (.bipush 17, 2) := by decide +kernel
theorem d_Mo_confirm_30 : decode b_Mo_confirm 30 = .ok (.aload_n 0, 1) := by decide +kernel
theorem d_Mo_confirm_31 : decode b_Mo_confirm 31 = .ok (.getfield 17, 3) := by decide +kernel
theorem d_Mo_confirm_34 : decode b_Mo_confirm 34 = .ok (.imul, 1) := by decide +kernel
theorem d_Mo_confirm_35 : decode b_Mo_confirm 35 = .ok (.iaload, 1) := by decide +kernel
theorem d_Mo_confirm_36 : decode b_Mo_confirm 36 = .ok (.invokevirtual 143, 3) := by decide +kernel
theorem d_Mo_confirm_39 : decode b_Mo_confirm 39 = .ok (.aload_n 0, 1) := by decide +kernel
theorem d_Mo_confirm_40 : decode b_Mo_confirm 40 = .ok (.iconst 0, 1) := by decide +kernel
theorem d_Mo_confirm_41 : decode b_Mo_confirm 41 = .ok (.putfield 106, 3) := by decide +kernel
theorem d_Mo_confirm_44 : decode b_Mo_confirm 44 = .ok (.aload_n 0, 1) := by decide +kernel
theorem d_Mo_confirm_45 : decode b_Mo_confirm 45 = .ok (.iconst 0, 1) := by decide +kernel
theorem d_Mo_confirm_46 : decode b_Mo_confirm 46 = .ok (.invokevirtual 137, 3) := by decide +kernel
theorem d_Mo_confirm_49 : decode b_Mo_confirm 49 = .ok (.ireturn, 1) := by decide +kernel
theorem d_Mo_running_0 : decode b_Mo_running 0 = .ok (.aload_n 0, 1) := by decide +kernel
theorem d_Mo_running_1 : decode b_Mo_running 1 = .ok (.getfield 17, 3) := by decide +kernel
theorem d_Mo_running_4 : decode b_Mo_running 4 = .ok (.ireturn, 1) := by decide +kernel
theorem d_Mo_onTrial_0 : decode b_Mo_onTrial 0 = .ok (.aload_n 0, 1) := by decide +kernel
theorem d_Mo_onTrial_1 : decode b_Mo_onTrial 1 = .ok (.getfield 106, 3) := by decide +kernel
theorem d_Mo_onTrial_4 : decode b_Mo_onTrial 4 = .ok (.ireturn, 1) := by decide +kernel
theorem d_Mo_counter_0 : decode b_Mo_counter 0 = .ok (.aload_n 0, 1) := by decide +kernel
theorem d_Mo_counter_1 : decode b_Mo_counter 1 = .ok (.getfield 35, 3) := by decide +kernel
theorem d_Mo_counter_4 : decode b_Mo_counter 4 = .ok (.ireturn, 1) := by decide +kernel
theorem d_Mo_peek_0 : decode b_Mo_peek 0 = .ok (.iload_n 1, 1) := by decide +kernel
theorem d_Mo_peek_1 : decode b_Mo_peek 1 = .ok (.ifCond .lt (9), 3) := by decide +kernel
theorem d_Mo_peek_4 : decode b_Mo_peek 4 = .ok (.iload_n 1, 1) := by decide +kernel
theorem d_Mo_peek_5 : decode b_Mo_peek 5 = .ok (.bipush 39, 2) := by decide +kernel
theorem d_Mo_peek_7 : decode b_Mo_peek 7 = .ok (.if_icmp .le (7), 3) := by decide +kernel
theorem d_Mo_peek_10 : decode b_Mo_peek 10 = .ok (.iconst 0, 1) := by decide +kernel
theorem d_Mo_peek_11 : decode b_Mo_peek 11 = .ok (.goto (9), 3) := by decide +kernel
theorem d_Mo_peek_14 : decode b_Mo_peek 14 = .ok (.aload_n 0, 1) := by decide +kernel
theorem d_Mo_peek_15 : decode b_Mo_peek 15 = .ok (.getfield 7, 3) := by decide +kernel
theorem d_Mo_peek_18 : decode b_Mo_peek 18 = .ok (.iload_n 1, 1) := by decide +kernel
theorem d_Mo_peek_19 : decode b_Mo_peek 19 = .ok (.iaload, 1) := by decide +kernel
theorem d_Mo_peek_20 : decode b_Mo_peek 20 = .ok (.ireturn, 1) := by decide +kernel
theorem d_Mo_poke_0 : decode b_Mo_poke 0 = .ok (.iload_n 1, 1) := by decide +kernel
theorem d_Mo_poke_1 : decode b_Mo_poke 1 = .ok (.ifCond .lt (9), 3) := by decide +kernel
theorem d_Mo_poke_4 : decode b_Mo_poke 4 = .ok (.iload_n 1, 1) := by decide +kernel
theorem d_Mo_poke_5 : decode b_Mo_poke 5 = .ok (.bipush 39, 2) := by decide +kernel
theorem d_Mo_poke_7 : decode b_Mo_poke 7 = .ok (.if_icmp .le (5), 3) := by decide +kernel
theorem d_Mo_poke_10 : decode b_Mo_poke 10 = .ok (.iconst 0, 1) := by decide +kernel
theorem d_Mo_poke_11 : decode b_Mo_poke 11 = .ok (.ireturn, 1) := by decide +kernel
theorem d_Mo_poke_12 : decode b_Mo_poke 12 = .ok (.aload_n 0, 1) := by decide +kernel
theorem d_Mo_poke_13 : decode b_Mo_poke 13 = .ok (.getfield 7, 3) := by decide +kernel
theorem d_Mo_poke_16 : decode b_Mo_poke 16 = .ok (.iload_n 1, 1) := by decide +kernel
theorem d_Mo_poke_17 : decode b_Mo_poke 17 = .ok (.iload_n 2, 1) := by decide +kernel
theorem d_Mo_poke_18 : decode b_Mo_poke 18 = .ok (.iastore, 1) := by decide +kernel
theorem d_Mo_poke_19 : decode b_Mo_poke 19 = .ok (.iconst 1, 1) := by decide +kernel
theorem d_Mo_poke_20 : decode b_Mo_poke 20 = .ok (.ireturn, 1) := by decide +kernel
theorem d_Mo_register_0 : decode b_Mo_register 0 = .ok (.aload_n 0, 1) := by decide +kernel
theorem d_Mo_register_1 : decode b_Mo_register 1 = .ok (.getfield 112, 3) := by decide +kernel
theorem d_Mo_register_4 : decode b_Mo_register 4 = .ok (.ireturn, 1) := by decide +kernel
theorem d_Mo_log_0 : decode b_Mo_log 0 = .ok (.iload_n 1, 1) := by decide +kernel
theorem d_Mo_log_1 : decode b_Mo_log 1 = .ok (.iconst (-1), 1) := by decide +kernel
theorem d_Mo_log_2 : decode b_Mo_log 2 = .ok (.if_icmp .ne (10), 3) := by decide +kernel
theorem d_Mo_log_5 : decode b_Mo_log 5 = .ok (.aload_n 0, 1) := by decide +kernel
theorem d_Mo_log_6 : decode b_Mo_log 6 = .ok (.getfield 109, 3) := by decide +kernel
theorem d_Mo_log_9 : decode b_Mo_log 9 = .ok (.goto (25), 3) := by decide +kernel
theorem d_Mo_log_12 : decode b_Mo_log 12 = .ok (.iload_n 1, 1) := by decide +kernel
theorem d_Mo_log_13 : decode b_Mo_log 13 = .ok (.ifCond .lt (20), 3) := by decide +kernel
theorem d_Mo_log_16 : decode b_Mo_log 16 = .ok (.iload_n 1, 1) := by decide +kernel
theorem d_Mo_log_17 : decode b_Mo_log 17 = .ok (.aload_n 0, 1) := by decide +kernel
theorem d_Mo_log_18 : decode b_Mo_log 18 = .ok (.getfield 109, 3) := by decide +kernel
theorem d_Mo_log_21 : decode b_Mo_log 21 = .ok (.if_icmp .ge (12), 3) := by decide +kernel
theorem d_Mo_log_24 : decode b_Mo_log 24 = .ok (.aload_n 0, 1) := by decide +kernel
theorem d_Mo_log_25 : decode b_Mo_log 25 = .ok (.getfield 20, 3) := by decide +kernel
theorem d_Mo_log_28 : decode b_Mo_log 28 = .ok (.iload_n 1, 1) := by decide +kernel
theorem d_Mo_log_29 : decode b_Mo_log 29 = .ok (.iaload, 1) := by decide +kernel
theorem d_Mo_log_30 : decode b_Mo_log 30 = .ok (.goto (4), 3) := by decide +kernel
theorem d_Mo_log_33 : decode b_Mo_log 33 = .ok (.iconst 0, 1) := by decide +kernel
theorem d_Mo_log_34 : decode b_Mo_log 34 = .ok (.ireturn, 1) := by decide +kernel
theorem d_Mo_writes_0 : decode b_Mo_writes 0 = .ok (.aload_n 0, 1) := by decide +kernel
theorem d_Mo_writes_1 : decode b_Mo_writes 1 = .ok (.getfield 99, 3) := by decide +kernel
theorem d_Mo_writes_4 : decode b_Mo_writes 4 = .ok (.ireturn, 1) := by decide +kernel
end
section
/-! The pure picture: what the methods of the class and of the reference reckon, over ints and over arrays as functions of a place. -/
def hh (a b : Int32) : Int32 :=
  (((a ^^^ 1398175271) * 796343837 + b ^^^ ush ((a ^^^ 1398175271) * 796343837 + b) (nI 13)) * 1398175271) ^^^ ush ((((a ^^^ 1398175271) * 796343837 + b) ^^^ ush ((a ^^^ 1398175271) * 796343837 + b) (nI 13)) * 1398175271) (nI 16)
def ck (a b : Int32) : Int32 := hh (hh a b) (nI 5)
/-- n steps along chain c, from place j -/
def alG (h : Int32 → Int32 → Int32) (c : Nat) : Nat → Nat → Int32 → Int32
  | 0, _, x => x
  | n + 1, j, x => alG h c n (j + 1) (h x (nI (16 * c + j)))
theorem alG_0 (h : Int32 → Int32 → Int32) (c j : Nat) (x : Int32) : alG h c 0 j x = x := rfl
theorem alG_s (h : Int32 → Int32 → Int32) (c n j : Nat) (x : Int32) : alG h c (n + 1) j x = alG h c n (j + 1) (h x (nI (16 * c + j))) := rfl
def al (c n j : Nat) (x : Int32) : Int32 := alG hh c n j x
theorem al_0 (c j : Nat) (x : Int32) : al c 0 j x = x := alG_0 hh c j x
theorem al_s (c n j : Nat) (x : Int32) : al c (n + 1) j x = al c n (j + 1) (hh x (nI (16 * c + j))) := alG_s hh c n j x
def cs (s : Int32) (q i : Nat) : Int32 := hh (hh s (nI q)) (nI i)
def ab (a b : Int32) (n : Nat) : Int32 := hh (hh a b) (nI n)
def lf6 (q : Int32) (e : Nat → Int32) : Int32 := hh (hh (hh (hh (hh (hh q (e 0)) (e 1)) (e 2)) (e 3)) (e 4)) (e 5)
def ms4 (r : Nat → Int32) : Int32 := hh (hh (hh (hh (nI 17) (r 0)) (r 1)) (r 2)) (r 3)
/-- digit i of a message, i below 4 -/
def nb4 (m : Int32) (i : Nat) : Nat := (ush m (nI (4 * i))).toBitVec.toNat % 2 ^ 4
def rs4 (m : Int32) : Nat := 60 - nb4 m 0 - nb4 m 1 - nb4 m 2 - nb4 m 3
def dgt (m : Int32) (i : Nat) : Nat := if 4 ≤ i then (if i = 4 then rs4 m % 2 ^ 4 else rs4 m / 2 ^ 4) else nb4 m i
theorem nb4_eq (m : Int32) (i : Nat) : ush m (nI (4 * i)) &&& nI 15 = nI (nb4 m i) := pk_and _ 4 (by decide)
theorem nb4_lt (m : Int32) (i : Nat) : nb4 m i ≤ 15 := by
  have h : nb4 m i < 2 ^ 4 := Nat.mod_lt _ (by decide)
  omega
theorem rs4_le (m : Int32) : rs4 m ≤ 60 := by unfold rs4; omega
theorem dgt_le (m : Int32) (i : Nat) : dgt m i ≤ 15 := by
  have h := rs4_le m
  have h2 := nb4_lt m i
  unfold dgt
  split
  · split <;> omega
  · exact h2
def mkLeaf (s : Int32) (q : Nat) : Int32 := lf6 (nI q) (fun i => al i 15 0 (cs s q i))
def sgEnd (r : Nat → Int32) (i : Nat) : Int32 := al i (15 - dgt (ms4 r) i) (dgt (ms4 r) i) (r (5 + i))
def sgLeaf (r : Nat → Int32) (q : Nat) : Int32 := lf6 (nI q) (sgEnd r)
def up1 (v w : Int32) (n : Nat) : Int32 := if n % 2 = 0 then ab v w (n / 2) else ab w v (n / 2)
def sgTop (r : Nat → Int32) (q : Nat) (lf : Int32) : Int32 := up1 (up1 (up1 lf (r 11) (8 + q)) (r 12) ((8 + q) / 2)) (r 13) ((8 + q) / 2 / 2)
def sgOk (r : Nat → Int32) (rt : Int32) : Bool :=
  if r 4 < 0 then false else if nI 8 ≤ r 4 then false else decide (sgTop r (r 4).toNatClampNeg (sgLeaf r (r 4).toNatClampNeg) = rt)
def isVer (v : Int32) : Bool := if v < nI 1 then false else if nI 32 < v then false else true
def stOk (r : Nat → Int32) (k : Nat) : Bool := decide (r (1 + k) = hh (r (14 + k)) (nI k))
def wrong (r : Nat → Int32) (rt : Int32) : Int32 :=
  if isVer (r 0) = false then nI 1 else if sgOk r rt = false then nI 2 else if stOk r 0 = false then nI 3 else if stOk r 1 = false then nI 4 else if stOk r 2 = false then nI 5 else nI 0
/-- an attempt: the answer, the rows entered, how many, the measure -/
def att (r : Nat → Int32) (bl : Nat) (rt : Int32) (en : Nat → Int32) : Bool × (Nat → Int32) × Nat × Int32 :=
  if isVer (r 0) = false then (false, en, 0, nI 0) else if r 0 < nI bl then (false, en, 0, nI 0) else if sgOk r rt = false then (false, en, 0, nI 0)
  else if stOk r 0 = false then (false, en, 0, nI 0)
  else if stOk r 1 = false then (false, upd en 0 (r 1), 1, hh (nI 0) (r 1))
  else if stOk r 2 = false then (false, upd (upd en 0 (r 1)) 1 (r 2), 2, hh (hh (nI 0) (r 1)) (r 2))
  else (true, upd (upd (upd en 0 (r 1)) 1 (r 2)) 2 (r 3), 3, hh (hh (hh (nI 0) (r 1)) (r 2)) (r 3))
def good (M : Nat → Int32) (k : Nat) : Bool := decide (M (34 + 3 * k + 2) = ck (M (34 + 3 * k)) (M (34 + 3 * k + 1)))
def cur (M : Nat → Int32) : Int32 :=
  if good M 0 = true then (if good M 1 = true then (if M 37 ≤ M 34 then nI 0 else nI 1) else nI 0) else if good M 1 = true then nI 1 else -1
def ety (M : Nat → Int32) : Int32 := if cur M = -1 then nI 0 else if cur M = nI 0 then M 35 else M 38
def srl (M : Nat → Int32) : Int32 := if cur M = -1 then nI 1 else if cur M = nI 0 then M 34 + nI 1 else M 37 + nI 1
def plc (M : Nat → Int32) : Nat := if cur M = nI 0 then 37 else 34
theorem cur_cases (M : Nat → Int32) : cur M = -1 ∨ cur M = nI 0 ∨ cur M = nI 1 := by
  unfold cur
  repeat' split
  all_goals simp
abbrev ST : Type := (Nat → Int32) × Int32 × Int32
def pMay (dn lf : Int32) : Bool × Int32 × Int32 := if lf = 0 then (false, dn, -1) else if lf ≤ 0 then (true, dn + nI 1, lf) else (true, dn + nI 1, lf - nI 1)
def pPut (M : Nat → Int32) (dn lf : Int32) (k : Nat) (x : Int32) : Bool × ST := match pMay dn lf with
  | (true, dn', lf') => (true, upd M k x, dn', lf')
  | (false, dn', lf') => (false, M, dn', lf')
def sq (o : Bool × ST) (f : ST → Bool × ST) : Bool × ST := match o with
  | (true, u) => f u
  | (false, u) => (false, u)
def tab3 (pl : Nat) (sr e : Int32) (M : Nat → Int32) (dn lf : Int32) : Bool × ST :=
  sq (pPut M dn lf pl sr) (fun u => sq (pPut u.1 u.2.1 u.2.2 (pl + 1) e) (fun u => pPut u.1 u.2.1 u.2.2 (pl + 2) (ck sr e)))
def pTab (M : Nat → Int32) (dn lf e : Int32) : Bool × ST := tab3 (plc M) (srl M) (e &&& nI 31) M dn lf
def wpL (src : Nat → Int32) (pl : Nat) : Nat → Nat → ST → Bool × ST
  | 0, _, u => (true, u)
  | n + 1, i, u => sq (pPut u.1 u.2.1 u.2.2 (pl + i) (src i)) (fun u => wpL src pl n (i + 1) u)
def gl (v : Int32) : Nat := if v < 0 then 0 else if 32 < v.toNatClampNeg then 32 else v.toNatClampNeg
def bw : Nat → Nat → Int32 → Int32 → Bool × Nat × Int32 × Int32
  | 0, bl, dn, lf => (true, bl, dn, lf)
  | n + 1, bl, dn, lf => match pMay dn lf with
    | (true, dn', lf') => bw n (bl + 1) dn' lf'
    | (false, dn', lf') => (false, bl, dn', lf')
def pBlow (v : Int32) (bl : Nat) (dn lf : Int32) : Bool × Nat × Int32 × Int32 := bw (gl v - bl) bl dn lf
def isPl (v : Int32) : Bool := if v < 0 then false else if nI 40 ≤ v then false else true
theorem key_nat {x : Int32} (h1 : ¬ x < 0) (h2 : ¬ nI 8 ≤ x) : ∃ q : Nat, q < 8 ∧ x = nI q := by
  rcases pk_ix x (n := 8) (by decide) with h | h | ⟨j, h, e⟩
  · exact absurd h h1
  · exact absurd h h2
  · exact ⟨j, h, e⟩
theorem sgOk_q {r : Nat → Int32} {rt : Int32} {q : Nat} (hq : r 4 = nI q) (h8 : q < 8) : sgOk r rt = decide (sgTop r q (sgLeaf r q) = rt) := by
  unfold sgOk
  rw [hq, nI_clamp (by omega), if_neg (nI_pos (by omega)), if_neg (nI_ge (by omega) (by decide))]
def sib (n : Nat) : Nat := if n % 2 = 0 then n + 1 else n - 1
theorem sib_lt {n : Nat} (h : n < 16) : sib n < 16 := by
  unfold sib
  split <;> omega
theorem sib_all : ∀ n, n < 16 → nI n ^^^ nI 1 = nI (sib n) := by decide
theorem sib_eq {n : Nat} (h : n < 16) : nI n ^^^ nI 1 = nI (sib n) := sib_all n h
def stg (f : Nat → Int32) (b k : Nat) (im : Int32) : Nat → Int32 := upd (upd f (b + (1 + k)) (hh im (nI k))) (b + (14 + k)) im
def chv (sc : Int32) (q : Nat) (m : Int32) (i : Nat) : Int32 := al i (dgt m i) 0 (cs sc q i)
def putC (sc : Int32) (q b : Nat) (m : Int32) (f : Nat → Int32) : Nat → Int32 := upd (upd (upd (upd (upd (upd f (b + 5) (chv sc q m 0)) (b + 6) (chv sc q m 1)) (b + 7) (chv sc q m 2)) (b + 8) (chv sc q m 3)) (b + 9) (chv sc q m 4)) (b + 10) (chv sc q m 5)
def putCh (sc : Int32) (q b : Nat) (f : Nat → Int32) : Nat → Int32 := putC sc q b (ms4 (fun i => f (b + i))) f
def putPa (nd : Nat → Int32) (q b : Nat) (f : Nat → Int32) : Nat → Int32 := upd (upd (upd f (b + 11) (nd (sib (8 + q)))) (b + 12) (nd (sib ((8 + q) / 2)))) (b + 13) (nd (sib ((8 + q) / 2 / 2)))
def pk17 (sc : Int32) (nd : Nat → Int32) (nk b : Nat) (ve a0 a1 a2 : Int32) (f : Nat → Int32) : Nat × (Nat → Int32) :=
  (nk + 1, putPa nd nk b (putCh sc nk b (upd (stg (stg (stg (upd f b ve) b 0 a0) b 1 a1) b 2 a2) (b + 4) (nI nk))))
def hom (en : Int32) : Nat := en.toBitVec.toNat % 2 ^ 1
def stt (en : Int32) (k : Nat) : Nat := (ush en (nI (1 + 2 * k))).toBitVec.toNat % 2 ^ 2
theorem hom_lt (en : Int32) : hom en < 2 := Nat.mod_lt _ (by decide)
theorem stt_lt (en : Int32) (k : Nat) : stt en k < 4 := Nat.mod_lt _ (by decide)
def who (en : Int32) (k : Nat) : Int32 := (en &&& (-2)) ||| nI k
def wst (en : Int32) (k v : Nat) : Int32 := (en &&& ((nI 3 <<< (nI (1 + 2 * k) &&& 31)) ^^^ (-1))) ||| (nI v <<< (nI (1 + 2 * k) &&& 31))
def trl (en : Int32) : Int32 := if stt en (1 - hom en) = 2 then nI (1 - hom en) else if stt en (hom en) = 2 then nI (hom en) else -1
def tE (sc : Int32) (q : Nat) (ed : Nat → Int32) : Nat → Int32 := upd (upd (upd (upd (upd (upd ed 0 (al 0 15 0 (cs sc q 0))) 1 (al 1 15 0 (cs sc q 1))) 2 (al 2 15 0 (cs sc q 2))) 3 (al 3 15 0 (cs sc q 3))) 4 (al 4 15 0 (cs sc q 4))) 5 (al 5 15 0 (cs sc q 5))
def tL (sc : Int32) : Nat → Nat → (Nat → Int32) × (Nat → Int32) → (Nat → Int32) × (Nat → Int32)
  | 0, _, u => u
  | n + 1, q, u => tL sc n (q + 1) (tE sc q u.1, upd u.2 (8 + q) (lf6 (nI q) (tE sc q u.1)))
def tn (f : Nat → Int32) (n : Nat) : Nat → Int32 := upd f n (ab (f (2 * n)) (f (2 * n + 1)) n)
def tU (f : Nat → Int32) : Nat → Int32 := tn (tn (tn (tn (tn (tn (tn f 7) 6) 5) 4) 3) 2) 1
/-- the maker's tree: the nodes of a secret -/
def ndV (sc : Int32) : Nat → Int32 := tU (fun j => mkLeaf sc (j - 8))
def root (sc : Int32) : Int32 := ndV sc 1
theorem tn_congr {f g : Nat → Int32} {n : Nat} (h1 : 1 ≤ n) (h7 : n ≤ 7) (h : ∀ j, n < j → j < 16 → f j = g j) : ∀ j, n - 1 < j → j < 16 → tn f n j = tn g n j := by
  intro j hj hj2
  unfold tn upd
  rw [h (2 * n) (by omega) (by omega), h (2 * n + 1) (by omega) (by omega)]
  split
  · rfl
  · exact h j (by omega) hj2
theorem tU_congr {f g : Nat → Int32} (h : ∀ j, 7 < j → j < 16 → f j = g j) : ∀ j, 0 < j → j < 16 → tU f j = tU g j :=
  tn_congr (by decide) (by decide) (tn_congr (n := 2) (by decide) (by decide) (tn_congr (n := 3) (by decide) (by decide) (tn_congr (n := 4) (by decide) (by decide) (tn_congr (n := 5) (by decide) (by decide) (tn_congr (n := 6) (by decide) (by decide) (tn_congr (n := 7) (by decide) (by decide) h))))))
theorem lf_tE (sc : Int32) (q : Nat) (ed : Nat → Int32) : lf6 (nI q) (tE sc q ed) = mkLeaf sc q := by
  simp [lf6, mkLeaf, tE, upd]
theorem tL_nd (sc : Int32) : ∀ (n q : Nat) (u : (Nat → Int32) × (Nat → Int32)) (j : Nat), (tL sc n q u).2 j = if 8 + q ≤ j ∧ j < 8 + q + n then mkLeaf sc (j - 8) else u.2 j := by
  intro n
  induction n with
  | zero => intro q u j; rw [if_neg (by omega)]; rfl
  | succ n ih =>
    intro q u j
    rw [tL, ih]
    by_cases h : j = 8 + q
    · subst h
      rw [if_neg (by omega), if_pos (by omega)]
      show upd _ _ _ _ = _
      rw [pk_us, show 8 + q - 8 = q by omega]
      exact lf_tE sc q u.1
    · by_cases h2 : 8 + (q + 1) ≤ j ∧ j < 8 + (q + 1) + n
      · rw [if_pos h2, if_pos (by omega)]
      · rw [if_neg h2, if_neg (by omega)]
        exact pk_un h
def tree (sc : Int32) (ed nd : Nat → Int32) : (Nat → Int32) × (Nat → Int32) := ((tL sc 8 0 (ed, nd)).1, tU (tL sc 8 0 (ed, nd)).2)
def keyS (sc : Int32) (ed nd : Nat → Int32) : Int32 × (Nat → Int32) × (Nat → Int32) := ((tree sc ed nd).2 1, tree sc ed nd)
theorem tree_at (sc : Int32) (ed nd : Nat → Int32) : ∀ j, 0 < j → j < 16 → (tree sc ed nd).2 j = ndV sc j := by
  refine tU_congr (fun j h1 h2 => ?_)
  rw [tL_nd, if_pos (by omega)]
theorem keyS_root (sc : Int32) (ed nd : Nat → Int32) : (keyS sc ed nd).1 = root sc := tree_at sc ed nd 1 (by decide) (by decide)
def digs (m : Int32) (dg : Nat → Int32) : Nat → Int32 := upd (upd (upd (upd (upd (upd dg 0 (nI (nb4 m 0))) 1 (nI (nb4 m 1))) 2 (nI (nb4 m 2))) 3 (nI (nb4 m 3))) 4 (nI (rs4 m % 2 ^ 4))) 5 (nI (rs4 m / 2 ^ 4))
theorem key_nat7 {x : Int32} (h1 : ¬ x < 0) (h2 : x ≤ nI 7) : ∃ q : Nat, q < 8 ∧ x = nI q := by
  obtain ⟨j, hj, e⟩ := nI_of h1
  subst e
  exact ⟨j, by have := (nI_leI hj (by decide : 7 < 2 ^ 31)).mp h2; omega, rfl⟩
theorem sgOk_hi {r : Nat → Int32} {rt : Int32} (h1 : ¬ r 4 < 0) (h2 : ¬ r 4 ≤ nI 7) : sgOk r rt = false := by
  unfold sgOk
  rw [if_neg h1]
  obtain ⟨j, hj, e⟩ := nI_of h1
  rw [e] at h2
  have h3 : ¬ j ≤ 7 := fun h => h2 ((nI_leI hj (by decide : 7 < 2 ^ 31)).mpr h)
  rw [if_pos]
  rw [e]
  exact (nI_leI (by decide) hj).mpr (by omega)
theorem digs_at (m : Int32) (dg : Nat → Int32) : ∀ i, i < 6 → digs m dg i = nI (dgt m i) := by
  intro i hi
  obtain rfl | rfl | rfl | rfl | rfl | rfl : i = 0 ∨ i = 1 ∨ i = 2 ∨ i = 3 ∨ i = 4 ∨ i = 5 := by omega
  all_goals rfl
def mMay (dd : Bool) (dn lf : Int32) : Bool × Bool × Int32 × Int32 := if dd = true then (false, dd, dn, lf) else if lf = 0 then (false, true, dn, -1) else if lf ≤ 0 then (true, dd, dn + nI 1, lf) else (true, dd, dn + nI 1, lf - nI 1)
def mPut (M : Nat → Int32) (dd : Bool) (dn lf : Int32) (k : Nat) (x : Int32) : (Nat → Int32) × Bool × Int32 × Int32 := match mMay dd dn lf with
  | (true, dd', dn', lf') => (upd M k x, dd', dn', lf')
  | (false, dd', dn', lf') => (M, dd', dn', lf')
def isPk (v : Int32) (n : Nat) : Bool := if v < 0 then false else if nI n ≤ v then false else true
def isPw (v w : Int32) (n : Nat) : Bool := if isPk v n = false then false else if w < 0 then false else if nI 17 ≤ w then false else true
theorem isPk_t {j n : Nat} (h : j < n) (hn : n < 2 ^ 31) : isPk (nI j) n = true := by
  unfold isPk
  rw [if_neg (nI_pos (by omega)), if_neg (nI_ge h hn)]
theorem pk_or {v : Int32} {n : Nat} (hn : n < 2 ^ 31) : (∃ j, j < n ∧ v = nI j ∧ isPk (nI j) n = true) ∨ isPk v n = false := by
  rcases pk_ix v hn with h | h | ⟨j, h, e⟩
  · right; unfold isPk; rw [if_pos h]
  · right; unfold isPk; split
    · rfl
    · rfl
  · exact Or.inl ⟨j, h, e, isPk_t h hn⟩
theorem pw_or {v w : Int32} {n : Nat} (hn : n < 2 ^ 31) : (∃ j i, j < n ∧ i < 17 ∧ v = nI j ∧ w = nI i ∧ isPw (nI j) (nI i) n = true) ∨ isPw v w n = false := by
  rcases pk_or (v := v) hn with ⟨j, hj, e, ht⟩ | h
  · rcases pk_or (v := w) (n := 17) (by decide) with ⟨i, hi, e2, ht2⟩ | h2
    · refine Or.inl ⟨j, i, hj, hi, e, e2, ?_⟩
      unfold isPw
      rw [ht, if_neg (by decide)]
      exact ht2
    · right
      unfold isPw
      split
      · rfl
      · exact h2
  · right; unfold isPw; rw [if_pos h]
theorem pl_or (v : Int32) : (∃ j, j < 40 ∧ v = nI j ∧ isPl (nI j) = true) ∨ isPl v = false := pk_or (v := v) (n := 40) (by decide)
theorem sta_cases (v : Int32) : v = nI 0 ∨ v = nI 1 ∨ (¬ v = nI 0 ∧ ¬ v = nI 1) := by
  by_cases h0 : v = nI 0
  · exact Or.inl h0
  · by_cases h1 : v = nI 1
    · exact Or.inr (Or.inl h1)
    · exact Or.inr (Or.inr ⟨h0, h1⟩)
def sta (en v : Int32) : Int32 := if v = nI 0 then nI (stt en 0) else if v = nI 1 then nI (stt en 1) else -1
def flt (v : Int32) (n : Nat) (pk : Nat → Int32) (rt : Int32) : Int32 := if isPk v n = true then wrong (fun i => pk (v.toNatClampNeg * 17 + i)) rt else -1
def wrd (v w : Int32) (n : Nat) (pk : Nat → Int32) : Int32 := if isPw v w n = true then pk (v.toNatClampNeg * 17 + w.toNatClampNeg) else nI 0
def alt (v w x : Int32) (n : Nat) (pk : Nat → Int32) : Bool × (Nat → Int32) := if isPw v w n = true then (true, upd pk (v.toNatClampNeg * 17 + w.toNatClampNeg) x) else (false, pk)
def pee (v : Int32) (M : Nat → Int32) : Int32 := if isPl v = true then M v.toNatClampNeg else nI 0
def pok (v x : Int32) (M : Nat → Int32) : Bool × (Nat → Int32) := if isPl v = true then (true, upd M v.toNatClampNeg x) else (false, M)
def cutS (v lf : Int32) : Bool × Int32 := if -1 ≤ v then (true, v) else (false, lf)
def lgv (v : Int32) (n : Nat) (en : Nat → Int32) : Int32 := if v = -1 then nI n else if isPk v n = true then en v.toNatClampNeg else nI 0
theorem nI_m1 {j : Nat} (h : j < 2 ^ 31) : ¬ nI j = -1 := by
  intro e
  have h1 := nI_pos' h
  rw [e] at h1
  exact absurd h1 (by decide)
theorem lg_or {v : Int32} {n : Nat} (hn : n < 2 ^ 31) : v = -1 ∨ (∃ j, j < n ∧ v = nI j) ∨ (¬ v = -1 ∧ (v < 0 ∨ nI n ≤ v)) := by
  by_cases h1 : v = -1
  · exact Or.inl h1
  · rcases pk_ix v hn with h | h | ⟨j, h, e⟩
    · exact Or.inr (Or.inr ⟨h1, Or.inl h⟩)
    · exact Or.inr (Or.inr ⟨h1, Or.inr h⟩)
    · exact Or.inr (Or.inl ⟨j, h, e⟩)
theorem lgv_in {j n : Nat} {en : Nat → Int32} (h : j < n) (hn : n < 2 ^ 31) : lgv (nI j) n en = en j := by
  unfold lgv
  rw [if_neg (nI_m1 (by omega)), isPk_t h hn, if_pos rfl, nI_clamp (by omega)]
theorem lgv_out {v : Int32} {n : Nat} {en : Nat → Int32} (h : ¬ v = -1) (h2 : v < 0 ∨ nI n ≤ v) : lgv v n en = nI 0 := by
  unfold lgv isPk
  rw [if_neg h]
  rcases h2 with h2 | h2
  · rw [if_pos h2]; rfl
  · rw [if_pos h2]; split <;> rfl
def entr (x : Int32) (en : Nat → Int32) (ec : Nat) (me : Int32) : (Nat → Int32) × Nat × Int32 := if 3 ≤ ec then (en, ec, hh me x) else (upd en ec x, ec + 1, hh me x)
def noW (v w : Int32) (n : Nat) : Bool := if v < 0 then true else if nI n ≤ v then true else if w < 0 then true else if w ≤ nI 16 then false else true
theorem le16 {w : Int32} (h : ¬ w < 0) : w ≤ nI 16 ↔ ¬ nI 17 ≤ w := by
  obtain ⟨j, hj, rfl⟩ := nI_of h
  rw [nI_leI hj (by decide), nI_leI (by decide) hj]
  omega
theorem noW_eq (v w : Int32) (n : Nat) : noW v w n = !isPw v w n := by
  unfold noW isPw isPk
  by_cases h1 : v < 0
  · simp [h1]
  · by_cases h2 : nI n ≤ v
    · simp [h1, h2]
    · by_cases h3 : w < 0
      · simp [h1, h2, h3]
      · by_cases h4 : nI 17 ≤ w
        · simp [h1, h2, h3, h4, (le16 h3)]
        · simp [h1, h2, h3, h4, (le16 h3)]
def altM (v w x : Int32) (n : Nat) (M : Nat → Int32) : Bool × (Nat → Int32) := if isPw v w n = true then (true, upd M (40 + 17 * v.toNatClampNeg + w.toNatClampNeg) x) else (false, M)
def wrdM (v w : Int32) (n : Nat) (M : Nat → Int32) : Int32 := if isPw v w n = true then M (40 + 17 * v.toNatClampNeg + w.toNatClampNeg) else nI 0
def strg (r : Nat → Int32) : Nat := if stOk r 0 = true then (if stOk r 1 = true then (if stOk r 2 = true then 3 else 2) else 1) else 0
theorem pl_orM (v : Int32) : (∃ j, j < 40 ∧ v = nI j ∧ isPl (nI j) = true ∧ True) ∨ (isPl v = false ∧ (v < 0 ∨ ¬ v ≤ nI 39)) := by
  rcases pk_ix v (n := 40) (by decide) with h | h | ⟨j, h, e⟩
  · refine Or.inr ⟨?_, Or.inl h⟩
    unfold isPl; rw [if_pos h]
  · by_cases h0 : v < 0
    · refine Or.inr ⟨?_, Or.inl h0⟩
      unfold isPl; rw [if_pos h0]
    · refine Or.inr ⟨?_, Or.inr ?_⟩
      · unfold isPl; rw [if_neg h0, if_pos h]
      · obtain ⟨j, hj, rfl⟩ := nI_of h0
        rw [nI_leI (by decide) hj] at h
        rw [nI_leI hj (by decide)]
        omega
  · exact Or.inl ⟨j, h, e, isPk_t (n := 40) h (by decide), trivial⟩
theorem sta_n {en : Int32} {k : Nat} (h : k < 2) : sta en (nI k) = nI (stt en k) := by
  obtain rfl | rfl : k = 0 ∨ k = 1 := by omega
  · rfl
  · rfl
def answ (g : Int32) (dd : Bool) (rn : Int32) (tr : Bool) (lg : Nat) (me : Int32) : Int32 × Bool × Int32 × Bool × Nat × Int32 := if dd = true then (-1, false, -1, false, 0, nI 0) else (g, dd, rn, tr, lg, me)
theorem cur_ne : ¬ (nI 0 = -1) ∧ ¬ (nI 1 = -1) ∧ ¬ (nI 1 = nI 0) ∧ ¬ ((-1 : Int32) = nI 0) := by decide
theorem srl_m {M : Nat → Int32} (h : cur M = -1) : nI 1 = srl M := by rw [srl, if_pos h]
theorem srl_0 {M : Nat → Int32} (h : cur M = nI 0) : nI 1 + M 34 = srl M := by rw [srl, h, if_neg cur_ne.1, if_pos rfl, Int32.add_comm]
theorem srl_1 {M : Nat → Int32} (h : cur M = nI 1) : nI 1 + M 37 = srl M := by rw [srl, h, if_neg cur_ne.2.1, if_neg cur_ne.2.2.1, Int32.add_comm]
theorem plc_m {M : Nat → Int32} (h : cur M = -1) : nI 34 = nI (plc M) := by rw [plc, h, if_neg cur_ne.2.2.2]
theorem plc_0 {M : Nat → Int32} (h : cur M = nI 0) : nI 37 = nI (plc M) := by rw [plc, h, if_pos rfl]
theorem plc_1 {M : Nat → Int32} (h : cur M = nI 1) : nI 34 = nI (plc M) := by rw [plc, h, if_neg cur_ne.2.2.1]
theorem srlC_m {M : Nat → Int32} (h : cur M = -1) : srl M = nI 1 := by rw [srl, if_pos h]
theorem srlC_0 {M : Nat → Int32} (h : cur M = nI 0) : srl M = M 34 + nI 1 := by rw [srl, h, if_neg cur_ne.1, if_pos rfl]
theorem srlC_1 {M : Nat → Int32} (h : cur M = nI 1) : srl M = M 37 + nI 1 := by rw [srl, h, if_neg cur_ne.2.1, if_neg cur_ne.2.2.1]
theorem plcN_m {M : Nat → Int32} (h : cur M = -1) : plc M = 34 := by rw [plc, h, if_neg cur_ne.2.2.2]
theorem plcN_0 {M : Nat → Int32} (h : cur M = nI 0) : plc M = 37 := by rw [plc, h, if_pos rfl]
theorem plcN_1 {M : Nat → Int32} (h : cur M = nI 1) : plc M = 34 := by rw [plc, h, if_neg cur_ne.2.2.1]
theorem plc_le (M : Nat → Int32) : plc M ≤ 37 := by unfold plc; split <;> decide
/-- the entry that the reference writes -/
def tbe (k v g o : Nat) : Nat := if k = 0 then g + (2 * v + 8 * o) else g + (2 * o + 8 * v)
def mTab (e : Nat) (M : Nat → Int32) (dd : Bool) (dn lf : Int32) : (Nat → Int32) × Bool × Int32 × Int32 := match mPut M dd dn lf (plc M) (srl M) with
  | (M1, dd1, dn1, lf1) => match mPut M1 dd1 dn1 lf1 (plc M + 1) (nI e) with
    | (M2, dd2, dn2, lf2) => mPut M2 dd2 dn2 lf2 (plc M + 2) (ck (srl M) (nI e))
def mBs (v : Int32) (u : Nat × Bool × Int32 × Int32) : Nat × Bool × Int32 × Int32 := if v ≤ nI u.1 then u else if 32 ≤ u.1 then u else match mMay u.2.1 u.2.2.1 u.2.2.2 with
  | (true, dd, dn, lf) => (u.1 + 1, dd, dn, lf)
  | (false, dd, dn, lf) => (u.1, dd, dn, lf)
def mBl (v : Int32) : Nat → Nat × Bool × Int32 × Int32 → Nat × Bool × Int32 × Int32
  | 0, u => u
  | n + 1, u => mBl v n (mBs v u)
theorem strg_cases (r : Nat → Int32) : strg r = 0 ∨ strg r = 1 ∨ strg r = 2 ∨ strg r = 3 := by
  unfold strg
  repeat' split
  all_goals simp
section ATT
variable {r : Nat → Int32} {bl : Nat} {rt : Int32} {en : Nat → Int32}
theorem att_lo (h1 : r 0 < nI 1) : att r bl rt en = (false, en, 0, nI 0) := by
  unfold att isVer
  simp [h1]
theorem att_hi (h1 : ¬ r 0 < nI 1) (h2 : nI 32 < r 0) : att r bl rt en = (false, en, 0, nI 0) := by
  unfold att isVer
  simp [h1, h2]
theorem att_bl (h1 : ¬ r 0 < nI 1) (h2 : ¬ nI 32 < r 0) (h3 : r 0 < nI bl) : att r bl rt en = (false, en, 0, nI 0) := by
  unfold att isVer
  simp [h1, h2, h3]
theorem att_sg (h1 : ¬ r 0 < nI 1) (h2 : ¬ nI 32 < r 0) (h3 : ¬ r 0 < nI bl) (h4 : sgOk r rt = false) : att r bl rt en = (false, en, 0, nI 0) := by
  unfold att isVer
  simp [h1, h2, h3, h4]
theorem strg_0 (h : strg r = 0) : stOk r 0 = false := by
  unfold strg at h
  cases h0 : stOk r 0 <;> cases h1 : stOk r 1 <;> cases h2 : stOk r 2 <;> simp_all
theorem strg_1 (h : strg r = 1) : stOk r 0 = true ∧ stOk r 1 = false := by
  unfold strg at h
  cases h0 : stOk r 0 <;> cases h1 : stOk r 1 <;> cases h2 : stOk r 2 <;> simp_all
theorem strg_2 (h : strg r = 2) : stOk r 0 = true ∧ stOk r 1 = true ∧ stOk r 2 = false := by
  unfold strg at h
  cases h0 : stOk r 0 <;> cases h1 : stOk r 1 <;> cases h2 : stOk r 2 <;> simp_all
theorem strg_3 (h : strg r = 3) : stOk r 0 = true ∧ stOk r 1 = true ∧ stOk r 2 = true := by
  unfold strg at h
  cases h0 : stOk r 0 <;> cases h1 : stOk r 1 <;> cases h2 : stOk r 2 <;> simp_all
theorem att_0 (h1 : ¬ r 0 < nI 1) (h2 : ¬ nI 32 < r 0) (h3 : ¬ r 0 < nI bl) (h4 : sgOk r rt = true) (h : strg r = 0) : att r bl rt en = (false, en, 0, nI 0) := by
  unfold att isVer
  simp [h1, h2, h3, h4, strg_0 h]
theorem att_1 (h1 : ¬ r 0 < nI 1) (h2 : ¬ nI 32 < r 0) (h3 : ¬ r 0 < nI bl) (h4 : sgOk r rt = true) (h : strg r = 1) : att r bl rt en = (false, upd en 0 (r 1), 1, hh (nI 0) (r 1)) := by
  unfold att isVer
  simp [h1, h2, h3, h4, strg_1 h]
theorem att_2 (h1 : ¬ r 0 < nI 1) (h2 : ¬ nI 32 < r 0) (h3 : ¬ r 0 < nI bl) (h4 : sgOk r rt = true) (h : strg r = 2) : att r bl rt en = (false, upd (upd en 0 (r 1)) 1 (r 2), 2, hh (hh (nI 0) (r 1)) (r 2)) := by
  unfold att isVer
  simp [h1, h2, h3, h4, strg_2 h]
theorem att_3 (h1 : ¬ r 0 < nI 1) (h2 : ¬ nI 32 < r 0) (h3 : ¬ r 0 < nI bl) (h4 : sgOk r rt = true) (h : strg r = 3) : att r bl rt en = (true, upd (upd (upd en 0 (r 1)) 1 (r 2)) 2 (r 3), 3, hh (hh (hh (nI 0) (r 1)) (r 2)) (r 3)) := by
  unfold att isVer
  simp [h1, h2, h3, h4, strg_3 h]
end ATT
theorem gl_or (v : Int32) : ((if nI 32 < v then nI 32 else v) < 0 ∧ gl v = 0) ∨ ((if nI 32 < v then nI 32 else v) = nI (gl v) ∧ gl v ≤ 32) := by
  unfold gl
  by_cases h : v < 0
  · left
    have h2 : ¬ nI 32 < v := by
      intro h3
      exact absurd (Int32.lt_trans h3 h) (by decide)
    rw [if_neg h2, if_pos h]
    exact ⟨h, rfl⟩
  · right
    obtain ⟨j, hj, rfl⟩ := nI_of h
    have e := nI_ltI (a := 32) (b := j) (by decide) hj
    rw [if_neg h, nI_clamp hj]
    by_cases h3 : 32 < j
    · rw [if_pos (e.mpr h3), if_pos h3]; exact ⟨rfl, by decide⟩
    · rw [if_neg (fun z => h3 (e.mp z)), if_neg h3]; exact ⟨rfl, by omega⟩
theorem neg_le {g : Int32} {k : Nat} (h : g < 0) (hk : k < 2 ^ 31) : g ≤ nI k := Int32.le_trans (Int32.le_of_lt h) (nI_pos' hk)
def rplC (k : Nat) (src : Nat → Int32) (M : Nat → Int32) (dn lf : Int32) : Bool × ST :=
  sq (pTab M dn lf (who (wst (ety M) k 0) (1 - k))) (fun u => sq (wpL src (k * 17) 17 0 u) (fun u => pTab u.1 u.2.1 u.2.2 (wst (ety u.1) k 2)))
def tsSign (sc : Int32) (nd : Nat → Int32) (cn nk : Nat) (ve a0 a1 a2 : Int32) (pk : Nat → Int32) : Int32 × Nat × Nat × (Nat → Int32) :=
  if isVer ve = false then (-1, cn, nk, pk) else if 8 ≤ nk then (-1, cn, nk, pk) else if cn < 7 then
    (match pk17 sc nd nk (cn * 17) ve a0 a1 a2 pk with
    | (nk', pk') => (nI cn, cn + 1, nk', pk')) else (-1, cn, nk, pk)
theorem isPw_0 (v : Int32) (n : Nat) : isPw v (nI 0) n = isPk v n := by
  unfold isPw
  cases h : isPk v n
  · rfl
  · rfl
theorem noW_0 (v : Int32) (n : Nat) : noW v (nI 0) n = !isPk v n := by rw [noW_eq, isPw_0]
def sg3 (b : Nat) (M : Nat → Int32) : Nat → Int32 := upd (upd (upd M (b + 1) (hh (M (b + 14)) (nI 0))) (b + 2) (hh (M (b + 15)) (nI 1))) (b + 3) (hh (M (b + 16)) (nI 2))
def sealM (sc : Int32) (q b : Nat) (M : Nat → Int32) : Nat → Int32 := putPa (ndV sc) q b (putCh sc q b (sg3 b M))
def moSign (sc : Int32) (cn : Nat) (ve a0 a1 a2 : Int32) (M : Nat → Int32) : Int32 × Nat × (Nat → Int32) :=
  if ve < nI 1 then (-1, cn, M) else if nI 32 < ve then (-1, cn, M) else if cn = 7 then (-1, cn, M) else
    (nI (cn + 1 - 1), cn + 1, sealM sc (cn + 1) (40 + 17 * cn) (upd (upd (upd (upd (upd M (40 + 17 * cn) ve) (40 + 17 * cn + 4) (nI (cn + 1))) (40 + 17 * cn + 14) a0) (40 + 17 * cn + 15) a1) (40 + 17 * cn + 16) a2))
def fltM (v : Int32) (n : Nat) (M : Nat → Int32) (rt : Int32) : Int32 := if isPk v n = true then wrong (fun i => M (40 + 17 * v.toNatClampNeg + i)) rt else -1
theorem strg_le (r : Nat → Int32) : strg r ≤ 3 := by
  rcases strg_cases r with h | h | h | h <;> omega
section WR
variable {r : Nat → Int32} {rt : Int32}
theorem lt32 {v : Int32} : v ≤ nI 32 ↔ ¬ nI 32 < v := Int32.not_lt.symm
theorem wrong_lo (h1 : r 0 < nI 1) : wrong r rt = nI 1 := by
  unfold wrong isVer
  simp [h1]
theorem wrong_hi (h1 : ¬ r 0 < nI 1) (h2 : ¬ r 0 ≤ nI 32) : wrong r rt = nI 1 := by
  have h3 : nI 32 < r 0 := by rwa [lt32, Classical.not_not] at h2
  unfold wrong isVer
  simp [h1, h3]
theorem ver_in (h1 : ¬ r 0 < nI 1) (h2 : r 0 ≤ nI 32) : isVer (r 0) = true := by
  rw [lt32] at h2
  unfold isVer
  rw [if_neg h1, if_neg h2]
theorem wrong_sg (h1 : ¬ r 0 < nI 1) (h2 : r 0 ≤ nI 32) (h3 : sgOk r rt = false) : wrong r rt = nI 2 := by
  unfold wrong
  rw [ver_in h1 h2, if_neg (by decide), if_pos h3]
theorem wrong_k (h1 : ¬ r 0 < nI 1) (h2 : r 0 ≤ nI 32) (h3 : sgOk r rt = true) (h4 : ¬ 3 ≤ strg r) : wrong r rt = nI (3 + strg r) := by
  unfold wrong
  rw [ver_in h1 h2, h3, if_neg (by decide), if_neg (by decide)]
  rcases strg_cases r with h | h | h | h
  · rw [h]; simp [strg_0 h]
  · rw [h]; simp [strg_1 h]
  · rw [h]; simp [strg_2 h]
  · omega
theorem wrong_0 (h1 : ¬ r 0 < nI 1) (h2 : r 0 ≤ nI 32) (h3 : sgOk r rt = true) (h4 : 3 ≤ strg r) : wrong r rt = nI 0 := by
  unfold wrong
  rw [ver_in h1 h2, h3, if_neg (by decide), if_neg (by decide)]
  rcases strg_cases r with h | h | h | h
  · omega
  · omega
  · omega
  · simp [strg_3 h]
end WR
def cfm (M : Nat → Int32) (k : Nat) : Bool := decide (stt (ety M) k = 3)
theorem hom_or (e : Int32) : hom e = 0 ∨ hom e = 1 := by
  have h := hom_lt e
  omega
def t1 (k : Nat) (M : Nat → Int32) (rt : Int32) (en : Nat → Int32) (ec : Nat) (me : Int32) (bl : Nat) : Bool × (Nat → Int32) × Nat × Int32 := if cfm M k = true then att (fun i => M (k * 17 + i)) bl rt en else (false, en, ec, me)
abbrev SCT : Type := Int32 × Int32 × Bool × (Nat → Int32) × Nat × Int32 × Nat × Int32 × Int32
def blw (k : Nat) (M : Nat → Int32) (tr : Bool) (en : Nat → Int32) (ec : Nat) (me : Int32) (bl : Nat) (dn lf : Int32) : SCT := match pBlow (M (k * 17)) bl dn lf with
  | (true, bl', dn', lf') => (nI k, nI k, tr, en, ec, me, bl', dn', lf')
  | (false, bl', dn', lf') => (-1, -1, false, en, 0, nI 0, bl', dn', lf')
def scC (M : Nat → Int32) (rt rn : Int32) (tr : Bool) (en : Nat → Int32) (ec : Nat) (me : Int32) (bl : Nat) (dn lf : Int32) : SCT :=
  match t1 (hom (ety M)) M rt en ec me bl with
  | (true, en1, ec1, me1) => blw (hom (ety M)) M tr en1 ec1 me1 bl dn lf
  | (false, en1, ec1, me1) => match t1 (1 - hom (ety M)) M rt en1 ec1 me1 bl with
    | (true, en2, ec2, me2) => blw (1 - hom (ety M)) M tr en2 ec2 me2 bl dn lf
    | (false, en2, _, _) => (nI 2, nI 2, tr, en2, 0, nI 0, bl, dn, lf)
def trlO (e : Int32) : Option Nat := if stt e (1 - hom e) = 2 then some (1 - hom e) else if stt e (hom e) = 2 then some (hom e) else none
theorem trl_or (e : Int32) : (trl e = -1 ∧ trlO e = none) ∨ (trl e = nI 0 ∧ trlO e = some 0) ∨ (trl e = nI 1 ∧ trlO e = some 1) := by
  unfold trl trlO
  rcases hom_or e with h | h <;> rw [h]
  · by_cases h1 : stt e (1 - 0) = 2
    · rw [if_pos h1, if_pos h1]; exact Or.inr (Or.inr ⟨rfl, rfl⟩)
    · rw [if_neg h1, if_neg h1]
      by_cases h2 : stt e 0 = 2
      · rw [if_pos h2, if_pos h2]; exact Or.inr (Or.inl ⟨rfl, rfl⟩)
      · rw [if_neg h2, if_neg h2]; exact Or.inl ⟨rfl, rfl⟩
  · by_cases h1 : stt e (1 - 1) = 2
    · rw [if_pos h1, if_pos h1]; exact Or.inr (Or.inl ⟨rfl, rfl⟩)
    · rw [if_neg h1, if_neg h1]
      by_cases h2 : stt e 1 = 2
      · rw [if_pos h2, if_pos h2]; exact Or.inr (Or.inr ⟨rfl, rfl⟩)
      · rw [if_neg h2, if_neg h2]; exact Or.inl ⟨rfl, rfl⟩
abbrev BTT : Type := Int32 × Int32 × Bool × (Nat → Int32) × Nat × Int32 × (Nat → Int32) × Nat × Int32 × Int32
def scB (M : Nat → Int32) (o : SCT) : BTT := match o with
  | (r, rn, tr, en, ec, me, bl, dn, lf) => (r, rn, tr, en, ec, me, M, bl, dn, lf)
def btC (rt : Int32) (en : Nat → Int32) (M : Nat → Int32) (bl : Nat) (dn lf : Int32) : BTT := match trlO (ety M) with
  | none => scB M (scC M rt (-1) false en 0 (nI 0) bl dn lf)
  | some k => match pTab M dn lf (wst (ety M) k 1) with
    | (false, M1, dn1, lf1) => (-1, -1, false, en, 0, nI 0, M1, bl, dn1, lf1)
    | (true, M1, dn1, lf1) => match att (fun i => M1 (k * 17 + i)) bl rt en with
      | (true, en1, ec1, me1) => (nI k, nI k, true, en1, ec1, me1, M1, bl, dn1, lf1)
      | (false, en1, ec1, me1) => scB M1 (scC M1 rt (-1) false en1 ec1 me1 bl dn1 lf1)
abbrev UPT : Type := Int32 × Int32 × Bool × Nat × Int32 × (Nat → Int32) × Int32 × Int32
def upK (src : Nat → Int32) (rn : Int32) (tr : Bool) (ec : Nat) (me : Int32) (M : Nat → Int32) (dn lf : Int32) : UPT :=
  if rn = -1 then (-2, rn, tr, ec, me, M, dn, lf) else if tr = true then (-2, rn, tr, ec, me, M, dn, lf) else
  match rplC (1 - (if rn = nI 2 then hom (ety M) else if rn = nI 1 then 1 else 0)) src M dn lf with
  | (true, M1, dn1, lf1) => (nI 0, rn, tr, ec, me, M1, dn1, lf1)
  | (false, M1, dn1, lf1) => (-1, -1, false, 0, nI 0, M1, dn1, lf1)
def upC (v : Int32) (cn : Nat) (pk : Nat → Int32) (rn : Int32) (tr : Bool) (ec : Nat) (me : Int32) (M : Nat → Int32) (dn lf : Int32) : UPT :=
  if isPk v cn = true then upK (fun i => pk (v.toNatClampNeg * 17 + i)) rn tr ec me M dn lf else (-2, rn, tr, ec, me, M, dn, lf)
theorem up_0 : (if nI 0 = nI 2 then 5 else if nI 0 = nI 1 then 1 else 0) = 0 := by decide
theorem up_1 : (if nI 1 = nI 2 then 5 else if nI 1 = nI 1 then 1 else 0) = 1 := by decide
theorem rn_01 {rn : Int32} (h : rn = -1 ∨ rn = nI 0 ∨ rn = nI 1 ∨ rn = nI 2) (h1 : ¬ rn = -1) (h2 : ¬ rn = nI 2) : rn = nI 0 ∨ rn = nI 1 := by
  rcases h with h | h | h | h
  · exact absurd h h1
  · exact Or.inl h
  · exact Or.inr h
  · exact absurd h h2
theorem cf_or {tr : Bool} {rn : Int32} (h : tr = true → rn = nI 0 ∨ rn = nI 1) : tr = false ∨ (tr = true ∧ rn = nI 0) ∨ (tr = true ∧ rn = nI 1) := by
  cases tr
  · exact Or.inl rfl
  · rcases h rfl with h | h
    · exact Or.inr (Or.inl ⟨rfl, h⟩)
    · exact Or.inr (Or.inr ⟨rfl, h⟩)
abbrev CFT : Type := Int32 × Int32 × Bool × Nat × Int32 × (Nat → Int32) × Nat × Int32 × Int32
def cfK (k : Nat) (rn : Int32) (ec : Nat) (me : Int32) (M : Nat → Int32) (bl : Nat) (dn lf : Int32) : CFT := match pTab M dn lf (who (wst (ety M) k 3) k) with
  | (false, M1, dn1, lf1) => (-1, -1, false, 0, nI 0, M1, bl, dn1, lf1)
  | (true, M1, dn1, lf1) => match pBlow (M1 (k * 17)) bl dn1 lf1 with
    | (true, bl2, dn2, lf2) => (nI 0, rn, false, ec, me, M1, bl2, dn2, lf2)
    | (false, bl2, dn2, lf2) => (-1, -1, false, 0, nI 0, M1, bl2, dn2, lf2)
def cfC (rn : Int32) (tr : Bool) (ec : Nat) (me : Int32) (M : Nat → Int32) (bl : Nat) (dn lf : Int32) : CFT :=
  if tr = true then cfK rn.toNatClampNeg rn ec me M bl dn lf else (-2, rn, tr, ec, me, M, bl, dn, lf)
abbrev MPT : Type := (Nat → Int32) × Bool × Int32 × Int32
def mWp (b pl : Nat) : Nat → Nat → MPT → MPT
  | 0, _, u => u
  | n + 1, i, u => mWp b pl n (i + 1) (mPut u.1 u.2.1 u.2.2.1 u.2.2.2 (pl + i) (u.1 (b + i)))
abbrev MCT : Type := Int32 × Int32 × Bool × Nat × Int32 × (Nat → Int32) × Nat × Bool × Int32 × Int32
def moCfK (k : Nat) (rn : Int32) (lg : Nat) (me : Int32) (M : Nat → Int32) (fu : Nat) (dd : Bool) (dn lf : Int32) : MCT :=
  match mTab (tbe k 3 k (stt (ety M) (1 - k))) M dd dn lf with
  | (M1, dd1, dn1, lf1) => match mBl (M1 (17 * k)) 32 (fu, dd1, dn1, lf1) with
    | (fu2, dd2, dn2, lf2) => match answ (nI 0) dd2 rn false lg me with
      | (r, dd3, rn3, tr3, lg3, me3) => (r, rn3, tr3, lg3, me3, M1, fu2, dd3, dn2, lf2)
def moCf (rn : Int32) (tr : Bool) (lg : Nat) (me : Int32) (M : Nat → Int32) (fu : Nat) (dd : Bool) (dn lf : Int32) : MCT :=
  if tr = true then moCfK rn.toNatClampNeg rn lg me M fu dd dn lf else (-2, rn, tr, lg, me, M, fu, dd, dn, lf)
abbrev MUT : Type := Int32 × Int32 × Bool × Nat × Int32 × MPT
def moUK (j : Nat) (rn : Int32) (tr : Bool) (lg : Nat) (me : Int32) (M : Nat → Int32) (dd : Bool) (dn lf : Int32) (k : Nat) : MUT :=
  if rn = -1 then (-2, rn, tr, lg, me, M, dd, dn, lf) else if tr = true then (-2, rn, tr, lg, me, M, dd, dn, lf) else
  match mTab (tbe k 0 (1 - k) (stt (ety M) (1 - k))) M dd dn lf with
  | (M1, dd1, dn1, lf1) => match mWp (40 + 17 * j) (17 * k) 17 0 (M1, dd1, dn1, lf1) with
    | (M2, dd2, dn2, lf2) => match mTab (tbe k 2 (hom (ety M2)) (stt (ety M2) (1 - k))) M2 dd2 dn2 lf2 with
      | (M3, dd3, dn3, lf3) => match answ (nI 0) dd3 rn tr lg me with
        | (r, dd4, rn4, tr4, lg4, me4) => (r, rn4, tr4, lg4, me4, M3, dd4, dn3, lf3)
def kept (rn : Int32) (M : Nat → Int32) : Nat := if rn = nI 2 then hom (ety M) else if rn = nI 1 then 1 else 0
def moUp (v : Int32) (cn : Nat) (rn : Int32) (tr : Bool) (lg : Nat) (me : Int32) (M : Nat → Int32) (dd : Bool) (dn lf : Int32) : MUT :=
  if isPk v cn = true then moUK v.toNatClampNeg rn tr lg me M dd dn lf (1 - kept rn M) else (-2, rn, tr, lg, me, M, dd, dn, lf)
theorem kept_0 (M : Nat → Int32) : kept (nI 0) M = 0 := rfl
theorem kept_1 (M : Nat → Int32) : kept (nI 1) M = 1 := rfl
theorem kept_2 (M : Nat → Int32) : kept (nI 2) M = hom (ety M) := rfl
abbrev MBT : Type := Int32 × Int32 × Bool × Nat × Int32 × (Nat → Int32) × (Nat → Int32) × Nat × Bool × Int32 × Int32
def mt1 (k : Nat) (M : Nat → Int32) (rt : Int32) (en : Nat → Int32) (lg : Nat) (me : Int32) (fu : Nat) : Bool × (Nat → Int32) × Nat × Int32 := if stt (ety M) k = 3 then att (fun i => M (17 * k + i)) fu rt en else (false, en, lg, me)
def mbw (k : Nat) (tr : Bool) (M en : Nat → Int32) (lg : Nat) (me : Int32) (fu : Nat) (dd : Bool) (dn lf : Int32) : MBT := match mBl (M (17 * k)) 32 (fu, dd, dn, lf) with
  | (fu2, dd2, dn2, lf2) => match answ (nI k) dd2 (nI k) tr lg me with
    | (r, dd3, rn3, tr3, lg3, me3) => (r, rn3, tr3, lg3, me3, en, M, fu2, dd3, dn2, lf2)
def moSc (rt : Int32) (lg : Nat) (me : Int32) (en M : Nat → Int32) (fu : Nat) (dd : Bool) (dn lf : Int32) : MBT :=
  match mt1 (hom (ety M)) M rt en lg me fu with
  | (true, en1, lg1, me1) => mbw (hom (ety M)) false M en1 lg1 me1 fu dd dn lf
  | (false, en1, lg1, me1) => match mt1 (1 - hom (ety M)) M rt en1 lg1 me1 fu with
    | (true, en2, lg2, me2) => mbw (1 - hom (ety M)) false M en2 lg2 me2 fu dd dn lf
    | (false, en2, _, _) => match answ (nI 2) dd (nI 2) false 0 (nI 0) with
      | (r, dd3, rn3, tr3, lg3, me3) => (r, rn3, tr3, lg3, me3, en2, M, fu, dd3, dn, lf)
def moBt (rt : Int32) (lg : Nat) (me : Int32) (en M : Nat → Int32) (fu : Nat) (dd : Bool) (dn lf : Int32) : MBT := match trlO (ety M) with
  | none => moSc rt lg me en M fu dd dn lf
  | some k => match mTab (tbe k 1 (hom (ety M)) (stt (ety M) (1 - k))) M dd dn lf with
    | (M1, dd1, dn1, lf1) => match att (fun i => M1 (17 * k + i)) fu rt en with
      | (true, en1, lg1, me1) => match answ (nI k) dd1 (nI k) true lg1 me1 with
        | (r, dd3, rn3, tr3, lg3, me3) => (r, rn3, tr3, lg3, me3, en1, M1, fu, dd3, dn1, lf1)
      | (false, en1, lg1, me1) => moSc rt lg1 me1 en1 M1 fu dd1 dn1 lf1
end
section
set_option maxHeartbeats 4000000 in
set_option maxRecDepth 100000 in
theorem c_TS_hash (l : Launch) (dC : Nat → ClassId) (dI : Nat → Nat → Nat) (cI : ClassId) (a : Int32) (b : Int32)  : Met l y_TS_hash w_TS_hash ({ frames := 0, cells := 0, slots := 0, locals := 0 }) (va_Pc [.int a, .int b] (fun U => va_P (dC, dI) classes [] U.heap ∧ KN dC dI cI U)) (qr (hh a b)) 0 0 (fun _ => False) := by
  refine Met.ofW (cc := b_TS_hash) (maxL := 3) (ret := (some .int)) (by decide) rfl ?_
  intro p e s m args below meth c s₁ B hml hv
  obtain ⟨rfl, hP, hKN⟩ := hv
  have hK := hKN.1
  have hx := B.exec
  have hb := B.bytes
  have hr := B.returns
  have hts := fun (w : Cond) (h : w ∈ gt) => atoms_spec (ws := w_TS_hash) B.pre w (List.mem_cons_of_mem _ h)
  have hown : s.vm.findClass R_TS = some m.cls := findClass_of_methodNamed B.named
  have hlocks := B.notSynchronized
  have hl := lv_entry ([.int a, .int b]) (n := 3) (Nat.le_of_ble_eq_true rfl)
  rw [lg_entry_eq]
  generalize (lg_sl ([.int a, .int b]) ++ List.replicate (3 - (lg_sl ([.int a, .int b])).length) Slot.unset).toArray = ls at hl ⊢
  have hl : lv_has ls 3 [(0, .int a), (1, .int b)] := hl
  refine lv_iload_n hx hb d_TS_hash_0 rfl (lv_at hl 0 rfl) ?_
  refine lv_ldc (v := 1398175271) hx hb hown (hts _ kw_67) d_TS_hash_1 ?_
  refine lv_ixor hx hb d_TS_hash_3 ?_
  refine lv_ldc (v := 796343837) hx hb hown (hts _ kw_68) d_TS_hash_4 ?_
  refine lv_imul hx hb d_TS_hash_6 ?_
  refine lv_iload_n hx hb d_TS_hash_7 rfl (lv_at hl 1 rfl) ?_
  refine lv_iadd hx hb d_TS_hash_8 ?_
  refine lv_istore_n (lv' := [(2, .int (((a ^^^ 1398175271) * 796343837) + b)), (0, .int a), (1, .int b)]) hx hb d_TS_hash_9 rfl hl (by decide) rfl (fun ls hl => ?_)
  refine lv_iload_n hx hb d_TS_hash_10 rfl (lv_at hl 0 rfl) ?_
  refine lv_iload_n hx hb d_TS_hash_11 rfl (lv_at hl 0 rfl) ?_
  refine lv_bipush (v := (nI 13)) hx hb d_TS_hash_12 (by decide) ?_
  refine lv_iushr (v := ush (((a ^^^ 1398175271) * 796343837) + b) (nI 13)) hx hb d_TS_hash_14 rfl ?_
  refine lv_ixor hx hb d_TS_hash_15 ?_
  refine lv_istore_n (lv' := [(2, .int ((((a ^^^ 1398175271) * 796343837) + b) ^^^ (ush (((a ^^^ 1398175271) * 796343837) + b) (nI 13)))), (0, .int a), (1, .int b)]) hx hb d_TS_hash_16 rfl hl (by decide) rfl (fun ls hl => ?_)
  refine lv_iload_n hx hb d_TS_hash_17 rfl (lv_at hl 0 rfl) ?_
  refine lv_ldc (v := 1398175271) hx hb hown (hts _ kw_67) d_TS_hash_18 ?_
  refine lv_imul hx hb d_TS_hash_20 ?_
  refine lv_istore_n (lv' := [(2, .int (((((a ^^^ 1398175271) * 796343837) + b) ^^^ (ush (((a ^^^ 1398175271) * 796343837) + b) (nI 13))) * 1398175271)), (0, .int a), (1, .int b)]) hx hb d_TS_hash_21 rfl hl (by decide) rfl (fun ls hl => ?_)
  refine lv_iload_n hx hb d_TS_hash_22 rfl (lv_at hl 0 rfl) ?_
  refine lv_iload_n hx hb d_TS_hash_23 rfl (lv_at hl 0 rfl) ?_
  refine lv_bipush (v := (nI 16)) hx hb d_TS_hash_24 (by decide) ?_
  refine lv_iushr (v := ush (((((a ^^^ 1398175271) * 796343837) + b) ^^^ (ush (((a ^^^ 1398175271) * 796343837) + b) (nI 13))) * 1398175271) (nI 16)) hx hb d_TS_hash_26 rfl ?_
  refine lv_ixor hx hb d_TS_hash_27 ?_
  exact W.iret (v := ((((((a ^^^ 1398175271) * 796343837) + b) ^^^ (ush (((a ^^^ 1398175271) * 796343837) + b) (nI 13))) * 1398175271) ^^^ (ush (((((a ^^^ 1398175271) * 796343837) + b) ^^^ (ush (((a ^^^ 1398175271) * 796343837) + b) (nI 13))) * 1398175271) (nI 16)))) hx hb hr (fun t ht hW => ⟨_, rfl, (by first | rfl | (simp only []; done) | (simp only []; rfl) | (simp []; done)), ht⟩) (fun q h => by cases h) d_TS_hash_28
set_option maxHeartbeats 4000000 in
set_option maxRecDepth 100000 in
theorem c_PW_digest (l : Launch) (dC : Nat → ClassId) (dI : Nat → Nat → Nat) (cI : ClassId) (a : Int32) (b : Int32)  : Met l y_PW_digest w_PW_digest ({ frames := 1, cells := 0, slots := 0, locals := 22 }) (va_Pc [.int a, .int b] (fun U => va_P (dC, dI) classes [] U.heap ∧ KN dC dI cI U)) (qr (hh a b)) 0 0 (fun _ => False) := by
  refine Met.ofW (cc := b_PW_digest) (maxL := 2) (ret := (some .int)) (by decide) rfl ?_
  intro p e s m args below meth c s₁ B hml hv
  obtain ⟨rfl, hP, hKN⟩ := hv
  have hK := hKN.1
  have hx := B.exec
  have hb := B.bytes
  have hr := B.returns
  have hts := fun (w : Cond) (h : w ∈ gt) => atoms_spec (ws := w_PW_digest) B.pre w (List.mem_cons_of_mem _ h)
  have hown : s.vm.findClass R_PW = some m.cls := findClass_of_methodNamed B.named
  have hlocks := B.notSynchronized
  have hl := lv_entry ([.int a, .int b]) (n := 2) (Nat.le_of_ble_eq_true rfl)
  rw [lg_entry_eq]
  generalize (lg_sl ([.int a, .int b]) ++ List.replicate (2 - (lg_sl ([.int a, .int b])).length) Slot.unset).toArray = ls at hl ⊢
  have hl : lv_has ls 2 [(0, .int a), (1, .int b)] := hl
  refine lv_iload_n hx hb d_PW_digest_0 rfl (lv_at hl 0 rfl) ?_
  refine lv_iload_n hx hb d_PW_digest_1 rfl (lv_at hl 1 rfl) ?_
  refine pr_call (va_runSN (As := [.int a, .int b]) (rest := []) ⟨hx, hb, hml, hown, hts⟩ (c_TS_hash l dC dI cI (a := a) (b := b) ) ⟨va_cnB 2 hts (gd kw_66) rfl rfl rfl (nst_2 hKN.2) (hts _ kw_35) (by decide +kernel) ⟨Nat.le_of_ble_eq_true rfl, Nat.le_of_ble_eq_true rfl⟩, (hts _ kw_65), trivial⟩ ⟨fun a U g mk q => by obtain ⟨q0, qP, qK⟩ := q; exact ⟨q0, qP, qK.call⟩, fun U hU hW => ⟨rfl, by rw [hU]; exact hP.sub [] rfl, hKN.warm hW⟩⟩ rfl rfl hl.1 rfl (lv_room (Nat.le_of_ble_eq_true rfl)) d_PW_digest_2 ⟨Nat.zero_le _, Nat.zero_le _⟩) ?_
  exact W.iret (v := (hh a b)) hx hb hr (fun t ht hW => ⟨_, rfl, (by first | rfl | (simp only []; done) | (simp only []; rfl) | (simp []; done)), ht⟩) (fun q h => by cases h) d_PW_digest_5
set_option maxHeartbeats 4000000 in
set_option maxRecDepth 100000 in
theorem c_PW_isVersion (l : Launch) (dC : Nat → ClassId) (dI : Nat → Nat → Nat) (cI : ClassId) (v : Int32)  : Met l y_PW_isVersion w_PW_isVersion ({ frames := 0, cells := 0, slots := 0, locals := 0 }) (va_Pc [.int v] (fun U => va_P (dC, dI) classes [] U.heap ∧ KN dC dI cI U)) (qr (bI (isVer v))) 0 0 (fun _ => False) := by
  refine Met.ofW (cc := b_PW_isVersion) (maxL := 1) (ret := (some .boolean)) (by decide) rfl ?_
  intro p e s m args below meth c s₁ B hml hv
  obtain ⟨rfl, hP, hKN⟩ := hv
  have hK := hKN.1
  have hx := B.exec
  have hb := B.bytes
  have hr := B.returns
  have hts := fun (w : Cond) (h : w ∈ gt) => atoms_spec (ws := w_PW_isVersion) B.pre w (List.mem_cons_of_mem _ h)
  have hown : s.vm.findClass R_PW = some m.cls := findClass_of_methodNamed B.named
  have hlocks := B.notSynchronized
  have hl := lv_entry ([.int v]) (n := 1) (Nat.le_of_ble_eq_true rfl)
  rw [lg_entry_eq]
  generalize (lg_sl ([.int v]) ++ List.replicate (1 - (lg_sl ([.int v])).length) Slot.unset).toArray = ls at hl ⊢
  have hl : lv_has ls 1 [(0, .int v)] := hl
  refine lv_iload_n hx hb d_PW_isVersion_0 rfl (lv_at hl 0 rfl) ?_
  refine lv_iconst (v := (nI 1)) hx hb d_PW_isVersion_1 (by decide) ?_
  refine lv_icmp_lt (tgt := 15) hx hb d_PW_isVersion_2 (by decide) (fun h_1 => ?_) (fun h_1 => ?_)
  · refine lv_iconst (v := (nI 0)) hx hb d_PW_isVersion_15 (by decide) ?_
    exact W.zret (v := (bI false)) hx hb hr (bI_narrow _) (fun t ht hW => ⟨_, rfl, (by first | rfl | (simp only [isVer, if_pos h_1]; done) | (simp only [isVer, if_pos h_1]; rfl) | (simp [isVer, h_1]; done)), ht⟩) (fun q h => by cases h) d_PW_isVersion_16
  · refine lv_iload_n hx hb d_PW_isVersion_5 rfl (lv_at hl 0 rfl) ?_
    refine lv_bipush (v := (nI 32)) hx hb d_PW_isVersion_6 (by decide) ?_
    refine lv_icmp_gt (tgt := 15) hx hb d_PW_isVersion_8 (by decide) (fun h_2 => ?_) (fun h_2 => ?_)
    · refine lv_iconst (v := (nI 0)) hx hb d_PW_isVersion_15 (by decide) ?_
      exact W.zret (v := (bI false)) hx hb hr (bI_narrow _) (fun t ht hW => ⟨_, rfl, (by first | rfl | (simp only [isVer, if_neg h_1, if_pos h_2]; done) | (simp only [isVer, if_neg h_1, if_pos h_2]; rfl) | (simp [isVer, h_1, h_2]; done)), ht⟩) (fun q h => by cases h) d_PW_isVersion_16
    · refine lv_iconst (v := (nI 1)) hx hb d_PW_isVersion_11 (by decide) ?_
      refine lv_goto (tgt := 16) hx hb d_PW_isVersion_12 (by decide) ?_
      exact W.zret (v := (bI true)) hx hb hr (bI_narrow _) (fun t ht hW => ⟨_, rfl, (by first | rfl | (simp only [isVer, if_neg h_1, if_neg h_2]; done) | (simp only [isVer, if_neg h_1, if_neg h_2]; rfl) | (simp [isVer, h_1, h_2]; done)), ht⟩) (fun q h => by cases h) d_PW_isVersion_16
set_option maxHeartbeats 4000000 in
set_option maxRecDepth 100000 in
theorem c_St_recordPlace (l : Launch) (dC : Nat → ClassId) (dI : Nat → Nat → Nat) (cI : ClassId) (k : Nat)  : Met l y_St_recordPlace w_St_recordPlace ({ frames := 0, cells := 0, slots := 0, locals := 0 }) (va_Pc [.int (nI k)] (fun U => va_P (dC, dI) classes [] U.heap ∧ KN dC dI cI U)) (qr (nI (34 + 3 * k))) 0 0 (fun _ => False) := by
  refine Met.ofW (cc := b_St_recordPlace) (maxL := 1) (ret := (some .int)) (by decide) rfl ?_
  intro p e s m args below meth c s₁ B hml hv
  obtain ⟨rfl, hP, hKN⟩ := hv
  have hK := hKN.1
  have hx := B.exec
  have hb := B.bytes
  have hr := B.returns
  have hts := fun (w : Cond) (h : w ∈ gt) => atoms_spec (ws := w_St_recordPlace) B.pre w (List.mem_cons_of_mem _ h)
  have hown : s.vm.findClass R_St = some m.cls := findClass_of_methodNamed B.named
  have hlocks := B.notSynchronized
  have hl := lv_entry ([.int (nI k)]) (n := 1) (Nat.le_of_ble_eq_true rfl)
  rw [lg_entry_eq]
  generalize (lg_sl ([.int (nI k)]) ++ List.replicate (1 - (lg_sl ([.int (nI k)])).length) Slot.unset).toArray = ls at hl ⊢
  have hl : lv_has ls 1 [(0, .int (nI k))] := hl
  refine lv_bipush (v := (nI 34)) hx hb d_St_recordPlace_0 (by decide) ?_
  refine lv_iconst (v := (nI 3)) hx hb d_St_recordPlace_2 (by decide) ?_
  refine lv_iload_n hx hb d_St_recordPlace_3 rfl (lv_at hl 0 rfl) ?_
  refine lv_imul hx hb d_St_recordPlace_4 ?_
  refine tp (pk_mul _ _) ?_
  refine lv_iadd hx hb d_St_recordPlace_5 ?_
  refine tp (nI_add _ _) ?_
  exact W.iret (v := (nI (34 + (3 * k)))) hx hb hr (fun t ht hW => ⟨_, rfl, (by first | rfl | (simp only []; done) | (simp only []; rfl) | (simp []; done)), ht⟩) (fun q h => by cases h) d_St_recordPlace_6
set_option maxHeartbeats 4000000 in
set_option maxRecDepth 100000 in
theorem c_St_slotPlace (l : Launch) (dC : Nat → ClassId) (dI : Nat → Nat → Nat) (cI : ClassId) (k : Nat)  : Met l y_St_slotPlace w_St_slotPlace ({ frames := 0, cells := 0, slots := 0, locals := 0 }) (va_Pc [.int (nI k)] (fun U => va_P (dC, dI) classes [] U.heap ∧ KN dC dI cI U)) (qr (nI (k * 17))) 0 0 (fun _ => False) := by
  refine Met.ofW (cc := b_St_slotPlace) (maxL := 1) (ret := (some .int)) (by decide) rfl ?_
  intro p e s m args below meth c s₁ B hml hv
  obtain ⟨rfl, hP, hKN⟩ := hv
  have hK := hKN.1
  have hx := B.exec
  have hb := B.bytes
  have hr := B.returns
  have hts := fun (w : Cond) (h : w ∈ gt) => atoms_spec (ws := w_St_slotPlace) B.pre w (List.mem_cons_of_mem _ h)
  have hown : s.vm.findClass R_St = some m.cls := findClass_of_methodNamed B.named
  have hlocks := B.notSynchronized
  have hl := lv_entry ([.int (nI k)]) (n := 1) (Nat.le_of_ble_eq_true rfl)
  rw [lg_entry_eq]
  generalize (lg_sl ([.int (nI k)]) ++ List.replicate (1 - (lg_sl ([.int (nI k)])).length) Slot.unset).toArray = ls at hl ⊢
  have hl : lv_has ls 1 [(0, .int (nI k))] := hl
  refine lv_iload_n hx hb d_St_slotPlace_0 rfl (lv_at hl 0 rfl) ?_
  refine lv_bipush (v := (nI 17)) hx hb d_St_slotPlace_1 (by decide) ?_
  refine lv_imul hx hb d_St_slotPlace_3 ?_
  refine tp (pk_mul _ _) ?_
  exact W.iret (v := (nI (k * 17))) hx hb hr (fun t ht hW => ⟨_, rfl, (by first | rfl | (simp only []; done) | (simp only []; rfl) | (simp []; done)), ht⟩) (fun q h => by cases h) d_St_slotPlace_4
set_option maxHeartbeats 4000000 in
set_option maxRecDepth 100000 in
theorem c_TS_packagePlace (l : Launch) (dC : Nat → ClassId) (dI : Nat → Nat → Nat) (cI : ClassId) (k : Nat)  : Met l y_TS_packagePlace w_TS_packagePlace ({ frames := 0, cells := 0, slots := 0, locals := 0 }) (va_Pc [.int (nI k)] (fun U => va_P (dC, dI) classes [] U.heap ∧ KN dC dI cI U)) (qr (nI (k * 17))) 0 0 (fun _ => False) := by
  refine Met.ofW (cc := b_TS_packagePlace) (maxL := 1) (ret := (some .int)) (by decide) rfl ?_
  intro p e s m args below meth c s₁ B hml hv
  obtain ⟨rfl, hP, hKN⟩ := hv
  have hK := hKN.1
  have hx := B.exec
  have hb := B.bytes
  have hr := B.returns
  have hts := fun (w : Cond) (h : w ∈ gt) => atoms_spec (ws := w_TS_packagePlace) B.pre w (List.mem_cons_of_mem _ h)
  have hown : s.vm.findClass R_TS = some m.cls := findClass_of_methodNamed B.named
  have hlocks := B.notSynchronized
  have hl := lv_entry ([.int (nI k)]) (n := 1) (Nat.le_of_ble_eq_true rfl)
  rw [lg_entry_eq]
  generalize (lg_sl ([.int (nI k)]) ++ List.replicate (1 - (lg_sl ([.int (nI k)])).length) Slot.unset).toArray = ls at hl ⊢
  have hl : lv_has ls 1 [(0, .int (nI k))] := hl
  refine lv_iload_n hx hb d_TS_packagePlace_0 rfl (lv_at hl 0 rfl) ?_
  refine lv_bipush (v := (nI 17)) hx hb d_TS_packagePlace_1 (by decide) ?_
  refine lv_imul hx hb d_TS_packagePlace_3 ?_
  refine tp (pk_mul _ _) ?_
  exact W.iret (v := (nI (k * 17))) hx hb hr (fun t ht hW => ⟨_, rfl, (by first | rfl | (simp only []; done) | (simp only []; rfl) | (simp []; done)), ht⟩) (fun q h => by cases h) d_TS_packagePlace_4
set_option maxHeartbeats 4000000 in
set_option maxRecDepth 100000 in
theorem c_St_check (l : Launch) (dC : Nat → ClassId) (dI : Nat → Nat → Nat) (cI : ClassId) (a : Int32) (b : Int32)  : Met l y_St_check w_St_check ({ frames := 1, cells := 0, slots := 0, locals := 22 }) (va_Pc [.int a, .int b] (fun U => va_P (dC, dI) classes [] U.heap ∧ KN dC dI cI U)) (qr (ck a b)) 0 0 (fun _ => False) := by
  refine Met.ofW (cc := b_St_check) (maxL := 2) (ret := (some .int)) (by decide) rfl ?_
  intro p e s m args below meth c s₁ B hml hv
  obtain ⟨rfl, hP, hKN⟩ := hv
  have hK := hKN.1
  have hx := B.exec
  have hb := B.bytes
  have hr := B.returns
  have hts := fun (w : Cond) (h : w ∈ gt) => atoms_spec (ws := w_St_check) B.pre w (List.mem_cons_of_mem _ h)
  have hown : s.vm.findClass R_St = some m.cls := findClass_of_methodNamed B.named
  have hlocks := B.notSynchronized
  have hl := lv_entry ([.int a, .int b]) (n := 2) (Nat.le_of_ble_eq_true rfl)
  rw [lg_entry_eq]
  generalize (lg_sl ([.int a, .int b]) ++ List.replicate (2 - (lg_sl ([.int a, .int b])).length) Slot.unset).toArray = ls at hl ⊢
  have hl : lv_has ls 2 [(0, .int a), (1, .int b)] := hl
  refine lv_iload_n hx hb d_St_check_0 rfl (lv_at hl 0 rfl) ?_
  refine lv_iload_n hx hb d_St_check_1 rfl (lv_at hl 1 rfl) ?_
  refine pr_call (va_runSN (As := [.int a, .int b]) (rest := []) ⟨hx, hb, hml, hown, hts⟩ (c_TS_hash l dC dI cI (a := a) (b := b) ) ⟨va_cnB 2 hts (gd kw_66) rfl rfl rfl (nst_3 hKN.2) (hts _ kw_35) (by decide +kernel) ⟨Nat.le_of_ble_eq_true rfl, Nat.le_of_ble_eq_true rfl⟩, (hts _ kw_65), trivial⟩ ⟨fun a U g mk q => by obtain ⟨q0, qP, qK⟩ := q; exact ⟨q0, qP, qK.call⟩, fun U hU hW => ⟨rfl, by rw [hU]; exact hP.sub [] rfl, hKN.warm hW⟩⟩ rfl rfl hl.1 rfl (lv_room (Nat.le_of_ble_eq_true rfl)) d_St_check_2 ⟨Nat.zero_le _, Nat.zero_le _⟩) ?_
  refine lv_iconst (v := (nI 5)) hx hb d_St_check_5 (by decide) ?_
  refine pr_call (va_runSN (As := [.int (hh a b), .int (nI 5)]) (rest := []) ⟨hx, hb, hml, hown, hts⟩ (c_TS_hash l dC dI cI (a := hh a b) (b := (nI 5)) ) ⟨va_cnB 2 hts (gd kw_66) rfl rfl rfl (nst_3 hKN.2) (hts _ kw_35) (by decide +kernel) ⟨Nat.le_of_ble_eq_true rfl, Nat.le_of_ble_eq_true rfl⟩, (hts _ kw_65), trivial⟩ ⟨fun a U g mk q => by obtain ⟨q0, qP, qK⟩ := q; exact ⟨q0, qP, qK.call⟩, fun U hU hW => ⟨rfl, by rw [hU]; exact hP.sub [] rfl, hKN.warm hW⟩⟩ rfl rfl hl.1 rfl (lv_room (Nat.le_of_ble_eq_true rfl)) d_St_check_6 ⟨Nat.zero_le _, Nat.zero_le _⟩) ?_
  exact W.iret (v := (hh (hh a b) (nI 5))) hx hb hr (fun t ht hW => ⟨_, rfl, (by first | rfl | (simp only []; done) | (simp only []; rfl) | (simp []; done)), ht⟩) (fun q h => by cases h) d_St_check_9
set_option maxHeartbeats 4000000 in
set_option maxRecDepth 100000 in
theorem c_St_isPlace (l : Launch) (dC : Nat → ClassId) (dI : Nat → Nat → Nat) (cI : ClassId) (v : Int32)  : Met l y_St_isPlace w_St_isPlace ({ frames := 0, cells := 0, slots := 0, locals := 0 }) (va_Pc [.int v] (fun U => va_P (dC, dI) classes [] U.heap ∧ KN dC dI cI U)) (qr (bI (isPl v))) 0 0 (fun _ => False) := by
  refine Met.ofW (cc := b_St_isPlace) (maxL := 1) (ret := (some .boolean)) (by decide) rfl ?_
  intro p e s m args below meth c s₁ B hml hv
  obtain ⟨rfl, hP, hKN⟩ := hv
  have hK := hKN.1
  have hx := B.exec
  have hb := B.bytes
  have hr := B.returns
  have hts := fun (w : Cond) (h : w ∈ gt) => atoms_spec (ws := w_St_isPlace) B.pre w (List.mem_cons_of_mem _ h)
  have hown : s.vm.findClass R_St = some m.cls := findClass_of_methodNamed B.named
  have hlocks := B.notSynchronized
  have hl := lv_entry ([.int v]) (n := 1) (Nat.le_of_ble_eq_true rfl)
  rw [lg_entry_eq]
  generalize (lg_sl ([.int v]) ++ List.replicate (1 - (lg_sl ([.int v])).length) Slot.unset).toArray = ls at hl ⊢
  have hl : lv_has ls 1 [(0, .int v)] := hl
  refine lv_iload_n hx hb d_St_isPlace_0 rfl (lv_at hl 0 rfl) ?_
  refine lv_if_lt (tgt := 14) hx hb d_St_isPlace_1 (by decide) (fun h_1 => ?_) (fun h_1 => ?_)
  · refine lv_iconst (v := (nI 0)) hx hb d_St_isPlace_14 (by decide) ?_
    exact W.zret (v := (bI false)) hx hb hr (bI_narrow _) (fun t ht hW => ⟨_, rfl, (by first | rfl | (simp only [isPl, if_pos h_1]; done) | (simp only [isPl, if_pos h_1]; rfl) | (simp [isPl, h_1]; done)), ht⟩) (fun q h => by cases h) d_St_isPlace_15
  · refine lv_iload_n hx hb d_St_isPlace_4 rfl (lv_at hl 0 rfl) ?_
    refine lv_bipush (v := (nI 40)) hx hb d_St_isPlace_5 (by decide) ?_
    refine lv_icmp_ge (tgt := 14) hx hb d_St_isPlace_7 (by decide) (fun h_2 => ?_) (fun h_2 => ?_)
    · refine lv_iconst (v := (nI 0)) hx hb d_St_isPlace_14 (by decide) ?_
      exact W.zret (v := (bI false)) hx hb hr (bI_narrow _) (fun t ht hW => ⟨_, rfl, (by first | rfl | (simp only [isPl, if_neg h_1, if_pos h_2]; done) | (simp only [isPl, if_neg h_1, if_pos h_2]; rfl) | (simp [isPl, h_1, h_2]; done)), ht⟩) (fun q h => by cases h) d_St_isPlace_15
    · refine lv_iconst (v := (nI 1)) hx hb d_St_isPlace_10 (by decide) ?_
      refine lv_goto (tgt := 15) hx hb d_St_isPlace_11 (by decide) ?_
      exact W.zret (v := (bI true)) hx hb hr (bI_narrow _) (fun t ht hW => ⟨_, rfl, (by first | rfl | (simp only [isPl, if_neg h_1, if_neg h_2]; done) | (simp only [isPl, if_neg h_1, if_neg h_2]; rfl) | (simp [isPl, h_1, h_2]; done)), ht⟩) (fun q h => by cases h) d_St_isPlace_15
set_option maxHeartbeats 4000000 in
set_option maxRecDepth 100000 in
theorem c_Sg_above (l : Launch) (dC : Nat → ClassId) (dI : Nat → Nat → Nat) (cI : ClassId) (a : Int32) (b : Int32) (k : Nat)  : Met l y_Sg_above w_Sg_above ({ frames := 1, cells := 0, slots := 0, locals := 22 }) (va_Pc [.int a, .int b, .int (nI k)] (fun U => va_P (dC, dI) classes [] U.heap ∧ KN dC dI cI U)) (qr (ab a b k)) 0 0 (fun _ => False) := by
  refine Met.ofW (cc := b_Sg_above) (maxL := 3) (ret := (some .int)) (by decide) rfl ?_
  intro p e s m args below meth c s₁ B hml hv
  obtain ⟨rfl, hP, hKN⟩ := hv
  have hK := hKN.1
  have hx := B.exec
  have hb := B.bytes
  have hr := B.returns
  have hts := fun (w : Cond) (h : w ∈ gt) => atoms_spec (ws := w_Sg_above) B.pre w (List.mem_cons_of_mem _ h)
  have hown : s.vm.findClass R_Sg = some m.cls := findClass_of_methodNamed B.named
  have hlocks := B.notSynchronized
  have hl := lv_entry ([.int a, .int b, .int (nI k)]) (n := 3) (Nat.le_of_ble_eq_true rfl)
  rw [lg_entry_eq]
  generalize (lg_sl ([.int a, .int b, .int (nI k)]) ++ List.replicate (3 - (lg_sl ([.int a, .int b, .int (nI k)])).length) Slot.unset).toArray = ls at hl ⊢
  have hl : lv_has ls 3 [(0, .int a), (1, .int b), (2, .int (nI k))] := hl
  refine lv_iload_n hx hb d_Sg_above_0 rfl (lv_at hl 0 rfl) ?_
  refine lv_iload_n hx hb d_Sg_above_1 rfl (lv_at hl 1 rfl) ?_
  refine pr_call (va_runSN (As := [.int a, .int b]) (rest := []) ⟨hx, hb, hml, hown, hts⟩ (c_TS_hash l dC dI cI (a := a) (b := b) ) ⟨va_cnB 2 hts (gd kw_66) rfl rfl rfl (nst_1 hKN.2) (hts _ kw_35) (by decide +kernel) ⟨Nat.le_of_ble_eq_true rfl, Nat.le_of_ble_eq_true rfl⟩, (hts _ kw_65), trivial⟩ ⟨fun a U g mk q => by obtain ⟨q0, qP, qK⟩ := q; exact ⟨q0, qP, qK.call⟩, fun U hU hW => ⟨rfl, by rw [hU]; exact hP.sub [] rfl, hKN.warm hW⟩⟩ rfl rfl hl.1 rfl (lv_room (Nat.le_of_ble_eq_true rfl)) d_Sg_above_2 ⟨Nat.zero_le _, Nat.zero_le _⟩) ?_
  refine lv_iload_n hx hb d_Sg_above_5 rfl (lv_at hl 2 rfl) ?_
  refine pr_call (va_runSN (As := [.int (hh a b), .int (nI k)]) (rest := []) ⟨hx, hb, hml, hown, hts⟩ (c_TS_hash l dC dI cI (a := hh a b) (b := (nI k)) ) ⟨va_cnB 2 hts (gd kw_66) rfl rfl rfl (nst_1 hKN.2) (hts _ kw_35) (by decide +kernel) ⟨Nat.le_of_ble_eq_true rfl, Nat.le_of_ble_eq_true rfl⟩, (hts _ kw_65), trivial⟩ ⟨fun a U g mk q => by obtain ⟨q0, qP, qK⟩ := q; exact ⟨q0, qP, qK.call⟩, fun U hU hW => ⟨rfl, by rw [hU]; exact hP.sub [] rfl, hKN.warm hW⟩⟩ rfl rfl hl.1 rfl (lv_room (Nat.le_of_ble_eq_true rfl)) d_Sg_above_6 ⟨Nat.zero_le _, Nat.zero_le _⟩) ?_
  exact W.iret (v := (hh (hh a b) (nI k))) hx hb hr (fun t ht hW => ⟨_, rfl, (by first | rfl | (simp only []; done) | (simp only []; rfl) | (simp []; done)), ht⟩) (fun q h => by cases h) d_Sg_above_9
set_option maxHeartbeats 4000000 in
set_option maxRecDepth 100000 in
theorem c_Mk_chainStart (l : Launch) (dC : Nat → ClassId) (dI : Nat → Nat → Nat) (cI : ClassId) (sc : Int32) (q : Nat) (ch : Nat)  : Met l y_Mk_chainStart w_Mk_chainStart ({ frames := 1, cells := 0, slots := 0, locals := 22 }) (va_Pc [.int sc, .int (nI q), .int (nI ch)] (fun U => va_P (dC, dI) classes [] U.heap ∧ KN dC dI cI U)) (qr (cs sc q ch)) 0 0 (fun _ => False) := by
  refine Met.ofW (cc := b_Mk_chainStart) (maxL := 3) (ret := (some .int)) (by decide) rfl ?_
  intro p e s m args below meth c s₁ B hml hv
  obtain ⟨rfl, hP, hKN⟩ := hv
  have hK := hKN.1
  have hx := B.exec
  have hb := B.bytes
  have hr := B.returns
  have hts := fun (w : Cond) (h : w ∈ gt) => atoms_spec (ws := w_Mk_chainStart) B.pre w (List.mem_cons_of_mem _ h)
  have hown : s.vm.findClass R_Mk = some m.cls := findClass_of_methodNamed B.named
  have hlocks := B.notSynchronized
  have hl := lv_entry ([.int sc, .int (nI q), .int (nI ch)]) (n := 3) (Nat.le_of_ble_eq_true rfl)
  rw [lg_entry_eq]
  generalize (lg_sl ([.int sc, .int (nI q), .int (nI ch)]) ++ List.replicate (3 - (lg_sl ([.int sc, .int (nI q), .int (nI ch)])).length) Slot.unset).toArray = ls at hl ⊢
  have hl : lv_has ls 3 [(0, .int sc), (1, .int (nI q)), (2, .int (nI ch))] := hl
  refine lv_iload_n hx hb d_Mk_chainStart_0 rfl (lv_at hl 0 rfl) ?_
  refine lv_iload_n hx hb d_Mk_chainStart_1 rfl (lv_at hl 1 rfl) ?_
  refine pr_call (va_runSN (As := [.int sc, .int (nI q)]) (rest := []) ⟨hx, hb, hml, hown, hts⟩ (c_TS_hash l dC dI cI (a := sc) (b := (nI q)) ) ⟨va_cnB 2 hts (gd kw_66) rfl rfl rfl (nst_0 hKN.2) (hts _ kw_35) (by decide +kernel) ⟨Nat.le_of_ble_eq_true rfl, Nat.le_of_ble_eq_true rfl⟩, (hts _ kw_65), trivial⟩ ⟨fun a U g mk q => by obtain ⟨q0, qP, qK⟩ := q; exact ⟨q0, qP, qK.call⟩, fun U hU hW => ⟨rfl, by rw [hU]; exact hP.sub [] rfl, hKN.warm hW⟩⟩ rfl rfl hl.1 rfl (lv_room (Nat.le_of_ble_eq_true rfl)) d_Mk_chainStart_2 ⟨Nat.zero_le _, Nat.zero_le _⟩) ?_
  refine lv_iload_n hx hb d_Mk_chainStart_5 rfl (lv_at hl 2 rfl) ?_
  refine pr_call (va_runSN (As := [.int (hh sc (nI q)), .int (nI ch)]) (rest := []) ⟨hx, hb, hml, hown, hts⟩ (c_TS_hash l dC dI cI (a := hh sc (nI q)) (b := (nI ch)) ) ⟨va_cnB 2 hts (gd kw_66) rfl rfl rfl (nst_0 hKN.2) (hts _ kw_35) (by decide +kernel) ⟨Nat.le_of_ble_eq_true rfl, Nat.le_of_ble_eq_true rfl⟩, (hts _ kw_65), trivial⟩ ⟨fun a U g mk q => by obtain ⟨q0, qP, qK⟩ := q; exact ⟨q0, qP, qK.call⟩, fun U hU hW => ⟨rfl, by rw [hU]; exact hP.sub [] rfl, hKN.warm hW⟩⟩ rfl rfl hl.1 rfl (lv_room (Nat.le_of_ble_eq_true rfl)) d_Mk_chainStart_6 ⟨Nat.zero_le _, Nat.zero_le _⟩) ?_
  exact W.iret (v := (hh (hh sc (nI q)) (nI ch))) hx hb hr (fun t ht hW => ⟨_, rfl, (by first | rfl | (simp only []; done) | (simp only []; rfl) | (simp []; done)), ht⟩) (fun q h => by cases h) d_Mk_chainStart_9
set_option maxHeartbeats 4000000 in
set_option maxRecDepth 100000 in
theorem c_Sg_walk (l : Launch) (dC : Nat → ClassId) (dI : Nat → Nat → Nat) (cI : ClassId) (x : Int32) (ch : Nat) (fr : Nat) (to : Nat) (hfr : fr ≤ 15) (hto : to ≤ 15) : Met l y_Sg_walk w_Sg_walk ({ frames := 1, cells := 0, slots := 0, locals := 22 }) (va_Pc [.int x, .int (nI ch), .int (nI fr), .int (nI to)] (fun U => va_P (dC, dI) classes [] U.heap ∧ KN dC dI cI U)) (qr (al ch (to - fr) fr x)) 0 0 (fun _ => False) := by
  refine Met.ofW (cc := b_Sg_walk) (maxL := 6) (ret := (some .int)) (by decide) rfl ?_
  intro p e s m args below meth c s₁ B hml hv
  obtain ⟨rfl, hP, hKN⟩ := hv
  have hK := hKN.1
  have hx := B.exec
  have hb := B.bytes
  have hr := B.returns
  have hts := fun (w : Cond) (h : w ∈ gt) => atoms_spec (ws := w_Sg_walk) B.pre w (List.mem_cons_of_mem _ h)
  have hown : s.vm.findClass R_Sg = some m.cls := findClass_of_methodNamed B.named
  have hlocks := B.notSynchronized
  have hl := lv_entry ([.int x, .int (nI ch), .int (nI fr), .int (nI to)]) (n := 6) (Nat.le_of_ble_eq_true rfl)
  rw [lg_entry_eq]
  generalize (lg_sl ([.int x, .int (nI ch), .int (nI fr), .int (nI to)]) ++ List.replicate (6 - (lg_sl ([.int x, .int (nI ch), .int (nI fr), .int (nI to)])).length) Slot.unset).toArray = ls at hl ⊢
  have hl : lv_has ls 6 [(0, .int x), (1, .int (nI ch)), (2, .int (nI fr)), (3, .int (nI to))] := hl
  refine lv_iload_n hx hb d_Sg_walk_0 rfl (lv_at hl 0 rfl) ?_
  refine lv_istore (lv' := [(4, .int x), (0, .int x), (1, .int (nI ch)), (2, .int (nI fr)), (3, .int (nI to))]) hx hb d_Sg_walk_1 hl (by decide) rfl (fun ls hl => ?_)
  refine lv_iload_n hx hb d_Sg_walk_3 rfl (lv_at hl 3 rfl) ?_
  refine lv_istore (lv' := [(5, .int (nI fr)), (4, .int x), (0, .int x), (1, .int (nI ch)), (2, .int (nI fr)), (3, .int (nI to))]) hx hb d_Sg_walk_4 hl (by decide) rfl (fun ls hl => ?_)
  refine wloopP (ι := Int32 × Nat) (fun i => to - (i.2)) (fun i ls => ((i.2) ≤ 15 ∧ al ch (to - fr) fr x = al ch (to - (i.2)) (i.2) (i.1)) ∧ lv_has ls 6 [(5, .int (nI (i.2))), (4, .int (i.1)), (0, .int x), (1, .int (nI ch)), (2, .int (nI fr)), (3, .int (nI to))]) ?_ (x, fr) ⟨⟨by omega, rfl⟩, hl⟩
  clear hl
  rintro ⟨y, k⟩ ls ⟨hinv, hl⟩ ih
  dsimp only at hinv hl ih
  obtain ⟨hk15, hk⟩ := hinv
  have hinv := And.intro hk15 hk
  refine lv_iload hx hb d_Sg_walk_6 (lv_at hl 0 rfl) ?_
  refine lv_iload_n hx hb d_Sg_walk_8 rfl (lv_at hl 5 rfl) ?_
  refine nb_ge (tgt := 32) hx hb d_Sg_walk_9 (by decide) (by first | omega | exact Nat.lt_of_lt_of_le (stt_lt _ _) (by decide)) (by first | omega | exact Nat.lt_of_lt_of_le (stt_lt _ _) (by decide)) (fun h_1 => ?_) (fun h_1 => ?_)
  · refine lv_iload hx hb d_Sg_walk_32 (lv_at hl 1 rfl) ?_
    exact W.iret (v := y) hx hb hr (fun t ht hW => ⟨_, rfl, (by rw [hk, show to - k = 0 by omega, al_0]), ht⟩) (fun q h => by cases h) d_Sg_walk_34
  · refine lv_iload hx hb d_Sg_walk_12 (lv_at hl 1 rfl) ?_
    refine lv_bipush (v := (nI 16)) hx hb d_Sg_walk_14 (by decide) ?_
    refine lv_iload_n hx hb d_Sg_walk_16 rfl (lv_at hl 3 rfl) ?_
    refine lv_imul hx hb d_Sg_walk_17 ?_
    refine tp (pk_mul _ _) ?_
    refine lv_iload hx hb d_Sg_walk_18 (lv_at hl 0 rfl) ?_
    refine lv_iadd hx hb d_Sg_walk_20 ?_
    refine tp (nI_add _ _) ?_
    refine pr_call (va_runSN (As := [.int y, .int (nI ((16 * ch) + k))]) (rest := []) ⟨hx, hb, hml, hown, hts⟩ (c_TS_hash l dC dI cI (a := y) (b := (nI ((16 * ch) + k))) ) ⟨va_cnB 2 hts (gd kw_66) rfl rfl rfl (nst_1 hKN.2) (hts _ kw_35) (by decide +kernel) ⟨Nat.le_of_ble_eq_true rfl, Nat.le_of_ble_eq_true rfl⟩, (hts _ kw_65), trivial⟩ ⟨fun a U g mk q => by obtain ⟨q0, qP, qK⟩ := q; exact ⟨q0, qP, qK.call⟩, fun U hU hW => ⟨rfl, by rw [hU]; exact hP.sub [] rfl, hKN.warm hW⟩⟩ rfl rfl hl.1 rfl (lv_room (Nat.le_of_ble_eq_true rfl)) d_Sg_walk_21 ⟨Nat.zero_le _, Nat.zero_le _⟩) ?_
    refine lv_istore (lv' := [(4, .int (hh y (nI ((16 * ch) + k)))), (5, .int (nI k)), (0, .int x), (1, .int (nI ch)), (2, .int (nI fr)), (3, .int (nI to))]) hx hb d_Sg_walk_24 hl (by decide) rfl (fun ls hl => ?_)
    refine lv_iinc (k := 1) (v := (nI (k + 1))) (lv' := [(5, .int (nI (k + 1))), (4, .int (hh y (nI ((16 * ch) + k)))), (0, .int x), (1, .int (nI ch)), (2, .int (nI fr)), (3, .int (nI to))]) hx hb d_Sg_walk_26 hl rfl (nI_inc _) (by decide) rfl (fun ls hl => ?_)
    refine lv_goto (tgt := 6) hx hb d_Sg_walk_29 (by decide) ?_
    exact ih (hh y (nI ((16 * ch) + k)), k + 1) ls (by show to - (k + 1) < to - k; omega) ⟨⟨by (try dsimp only); omega, by rw [hinv.2, show to - k = (to - (k + 1)) + 1 by omega, al_s]⟩, hl⟩
set_option maxHeartbeats 4000000 in
set_option maxRecDepth 100000 in
theorem c_Sg_message (l : Launch) (dC : Nat → ClassId) (dI : Nat → Nat → Nat) (cI : ClassId) (ha : Nat) (b : Nat) (N : Nat) (f : Nat → Int32) (hN : N < 2 ^ 31) (hbN : b + 17 ≤ N) : Met l y_Sg_message w_Sg_message ({ frames := 1, cells := 0, slots := 0, locals := 22 }) (va_Pc [.ref ha, .int (nI b)] (fun U => va_P (dC, dI) classes [(ha, .inl (cI, N, .inl f))] U.heap ∧ KN dC dI cI U)) (qr (ms4 (fun i => f (b + i)))) 0 0 (fun _ => False) := by
  refine Met.ofW (cc := b_Sg_message) (maxL := 4) (ret := (some .int)) (by decide) rfl ?_
  intro p e s m args below meth c s₁ B hml hv
  obtain ⟨rfl, hP, hKN⟩ := hv
  have hK := hKN.1
  have hx := B.exec
  have hb := B.bytes
  have hr := B.returns
  have hts := fun (w : Cond) (h : w ∈ gt) => atoms_spec (ws := w_Sg_message) B.pre w (List.mem_cons_of_mem _ h)
  have hown : s.vm.findClass R_Sg = some m.cls := findClass_of_methodNamed B.named
  have hlocks := B.notSynchronized
  have hl := lv_entry ([.ref ha, .int (nI b)]) (n := 4) (Nat.le_of_ble_eq_true rfl)
  rw [lg_entry_eq]
  generalize (lg_sl ([.ref ha, .int (nI b)]) ++ List.replicate (4 - (lg_sl ([.ref ha, .int (nI b)])).length) Slot.unset).toArray = ls at hl ⊢
  have hl : lv_has ls 4 [(0, .ref ha), (1, .int (nI b))] := hl
  refine lv_bipush (v := (nI 17)) hx hb d_Sg_message_0 (by decide) ?_
  refine lv_istore_n (lv' := [(2, .int (nI 17)), (0, .ref ha), (1, .int (nI b))]) hx hb d_Sg_message_2 rfl hl (by decide) rfl (fun ls hl => ?_)
  refine lv_iconst (v := (nI 0)) hx hb d_Sg_message_3 (by decide) ?_
  refine lv_istore_n (lv' := [(3, .int (nI 0)), (2, .int (nI 17)), (0, .ref ha), (1, .int (nI b))]) hx hb d_Sg_message_4 rfl hl (by decide) rfl (fun ls hl => ?_)
  refine lv_iload_n hx hb d_Sg_message_5 rfl (lv_at hl 0 rfl) ?_
  refine lv_iconst (v := (nI 4)) hx hb d_Sg_message_6 (by decide) ?_
  refine nb_ge (tgt := 26) hx hb d_Sg_message_7 (by decide) (by decide) (by decide) (fun h_1 => ?_) (fun h_1 => ?_)
  · exact absurd h_1 (by decide)
  · refine lv_iload_n hx hb d_Sg_message_10 rfl (lv_at hl 1 rfl) ?_
    refine lv_aload_n hx hb d_Sg_message_11 rfl (lv_at hl 2 rfl) ?_
    refine lv_iload_n hx hb d_Sg_message_12 rfl (lv_at hl 3 rfl) ?_
    refine lv_iload_n hx hb d_Sg_message_13 rfl (lv_at hl 0 rfl) ?_
    refine lv_iadd hx hb d_Sg_message_14 ?_
    refine tp (y := (nI b)) (nI_add _ _) ?_
    refine ar_ld (k := b) hx hb hK hP 0 0 rfl rfl (by omega) (by first | decide | omega) d_Sg_message_15 ?_
    refine pr_call (va_runSN (As := [.int (nI 17), .int (f b)]) (rest := []) ⟨hx, hb, hml, hown, hts⟩ (c_TS_hash l dC dI cI (a := (nI 17)) (b := f b) ) ⟨va_cnB 2 hts (gd kw_66) rfl rfl rfl (nst_1 hKN.2) (hts _ kw_35) (by decide +kernel) ⟨Nat.le_of_ble_eq_true rfl, Nat.le_of_ble_eq_true rfl⟩, (hts _ kw_65), trivial⟩ ⟨fun a U g mk q => by obtain ⟨q0, qP, qK⟩ := q; exact ⟨q0, qP, qK.call⟩, fun U hU hW => ⟨rfl, by rw [hU]; exact hP.sub [] rfl, hKN.warm hW⟩⟩ rfl rfl hl.1 rfl (lv_room (Nat.le_of_ble_eq_true rfl)) d_Sg_message_16 ⟨Nat.zero_le _, Nat.zero_le _⟩) ?_
    refine lv_istore_n (lv' := [(2, .int (hh (nI 17) (f b))), (3, .int (nI 0)), (0, .ref ha), (1, .int (nI b))]) hx hb d_Sg_message_19 rfl hl (by decide) rfl (fun ls hl => ?_)
    refine lv_iinc (k := 1) (v := (nI 1)) (lv' := [(3, .int (nI 1)), (2, .int (hh (nI 17) (f b))), (0, .ref ha), (1, .int (nI b))]) hx hb d_Sg_message_20 hl rfl (by decide) (by decide) rfl (fun ls hl => ?_)
    refine lv_goto (tgt := 5) hx hb d_Sg_message_23 (by decide) ?_
    refine lv_iload_n hx hb d_Sg_message_5 rfl (lv_at hl 0 rfl) ?_
    refine lv_iconst (v := (nI 4)) hx hb d_Sg_message_6 (by decide) ?_
    refine nb_ge (tgt := 26) hx hb d_Sg_message_7 (by decide) (by decide) (by decide) (fun h_2 => ?_) (fun h_2 => ?_)
    · exact absurd h_2 (by decide)
    · refine lv_iload_n hx hb d_Sg_message_10 rfl (lv_at hl 1 rfl) ?_
      refine lv_aload_n hx hb d_Sg_message_11 rfl (lv_at hl 2 rfl) ?_
      refine lv_iload_n hx hb d_Sg_message_12 rfl (lv_at hl 3 rfl) ?_
      refine lv_iload_n hx hb d_Sg_message_13 rfl (lv_at hl 0 rfl) ?_
      refine lv_iadd hx hb d_Sg_message_14 ?_
      refine tp (nI_add _ _) ?_
      refine ar_ld (k := b + 1) hx hb hK hP 0 0 rfl rfl (by omega) (by first | decide | omega) d_Sg_message_15 ?_
      refine pr_call (va_runSN (As := [.int (hh (nI 17) (f b)), .int (f (b + 1))]) (rest := []) ⟨hx, hb, hml, hown, hts⟩ (c_TS_hash l dC dI cI (a := hh (nI 17) (f b)) (b := f (b + 1)) ) ⟨va_cnB 2 hts (gd kw_66) rfl rfl rfl (nst_1 hKN.2) (hts _ kw_35) (by decide +kernel) ⟨Nat.le_of_ble_eq_true rfl, Nat.le_of_ble_eq_true rfl⟩, (hts _ kw_65), trivial⟩ ⟨fun a U g mk q => by obtain ⟨q0, qP, qK⟩ := q; exact ⟨q0, qP, qK.call⟩, fun U hU hW => ⟨rfl, by rw [hU]; exact hP.sub [] rfl, hKN.warm hW⟩⟩ rfl rfl hl.1 rfl (lv_room (Nat.le_of_ble_eq_true rfl)) d_Sg_message_16 ⟨Nat.zero_le _, Nat.zero_le _⟩) ?_
      refine lv_istore_n (lv' := [(2, .int (hh (hh (nI 17) (f b)) (f (b + 1)))), (3, .int (nI 1)), (0, .ref ha), (1, .int (nI b))]) hx hb d_Sg_message_19 rfl hl (by decide) rfl (fun ls hl => ?_)
      refine lv_iinc (k := 1) (v := (nI 2)) (lv' := [(3, .int (nI 2)), (2, .int (hh (hh (nI 17) (f b)) (f (b + 1)))), (0, .ref ha), (1, .int (nI b))]) hx hb d_Sg_message_20 hl rfl (by decide) (by decide) rfl (fun ls hl => ?_)
      refine lv_goto (tgt := 5) hx hb d_Sg_message_23 (by decide) ?_
      refine lv_iload_n hx hb d_Sg_message_5 rfl (lv_at hl 0 rfl) ?_
      refine lv_iconst (v := (nI 4)) hx hb d_Sg_message_6 (by decide) ?_
      refine nb_ge (tgt := 26) hx hb d_Sg_message_7 (by decide) (by decide) (by decide) (fun h_3 => ?_) (fun h_3 => ?_)
      · exact absurd h_3 (by decide)
      · refine lv_iload_n hx hb d_Sg_message_10 rfl (lv_at hl 1 rfl) ?_
        refine lv_aload_n hx hb d_Sg_message_11 rfl (lv_at hl 2 rfl) ?_
        refine lv_iload_n hx hb d_Sg_message_12 rfl (lv_at hl 3 rfl) ?_
        refine lv_iload_n hx hb d_Sg_message_13 rfl (lv_at hl 0 rfl) ?_
        refine lv_iadd hx hb d_Sg_message_14 ?_
        refine tp (nI_add _ _) ?_
        refine ar_ld (k := b + 2) hx hb hK hP 0 0 rfl rfl (by omega) (by first | decide | omega) d_Sg_message_15 ?_
        refine pr_call (va_runSN (As := [.int (hh (hh (nI 17) (f b)) (f (b + 1))), .int (f (b + 2))]) (rest := []) ⟨hx, hb, hml, hown, hts⟩ (c_TS_hash l dC dI cI (a := hh (hh (nI 17) (f b)) (f (b + 1))) (b := f (b + 2)) ) ⟨va_cnB 2 hts (gd kw_66) rfl rfl rfl (nst_1 hKN.2) (hts _ kw_35) (by decide +kernel) ⟨Nat.le_of_ble_eq_true rfl, Nat.le_of_ble_eq_true rfl⟩, (hts _ kw_65), trivial⟩ ⟨fun a U g mk q => by obtain ⟨q0, qP, qK⟩ := q; exact ⟨q0, qP, qK.call⟩, fun U hU hW => ⟨rfl, by rw [hU]; exact hP.sub [] rfl, hKN.warm hW⟩⟩ rfl rfl hl.1 rfl (lv_room (Nat.le_of_ble_eq_true rfl)) d_Sg_message_16 ⟨Nat.zero_le _, Nat.zero_le _⟩) ?_
        refine lv_istore_n (lv' := [(2, .int (hh (hh (hh (nI 17) (f b)) (f (b + 1))) (f (b + 2)))), (3, .int (nI 2)), (0, .ref ha), (1, .int (nI b))]) hx hb d_Sg_message_19 rfl hl (by decide) rfl (fun ls hl => ?_)
        refine lv_iinc (k := 1) (v := (nI 3)) (lv' := [(3, .int (nI 3)), (2, .int (hh (hh (hh (nI 17) (f b)) (f (b + 1))) (f (b + 2)))), (0, .ref ha), (1, .int (nI b))]) hx hb d_Sg_message_20 hl rfl (by decide) (by decide) rfl (fun ls hl => ?_)
        refine lv_goto (tgt := 5) hx hb d_Sg_message_23 (by decide) ?_
        refine lv_iload_n hx hb d_Sg_message_5 rfl (lv_at hl 0 rfl) ?_
        refine lv_iconst (v := (nI 4)) hx hb d_Sg_message_6 (by decide) ?_
        refine nb_ge (tgt := 26) hx hb d_Sg_message_7 (by decide) (by decide) (by decide) (fun h_4 => ?_) (fun h_4 => ?_)
        · exact absurd h_4 (by decide)
        · refine lv_iload_n hx hb d_Sg_message_10 rfl (lv_at hl 1 rfl) ?_
          refine lv_aload_n hx hb d_Sg_message_11 rfl (lv_at hl 2 rfl) ?_
          refine lv_iload_n hx hb d_Sg_message_12 rfl (lv_at hl 3 rfl) ?_
          refine lv_iload_n hx hb d_Sg_message_13 rfl (lv_at hl 0 rfl) ?_
          refine lv_iadd hx hb d_Sg_message_14 ?_
          refine tp (nI_add _ _) ?_
          refine ar_ld (k := b + 3) hx hb hK hP 0 0 rfl rfl (by omega) (by first | decide | omega) d_Sg_message_15 ?_
          refine pr_call (va_runSN (As := [.int (hh (hh (hh (nI 17) (f b)) (f (b + 1))) (f (b + 2))), .int (f (b + 3))]) (rest := []) ⟨hx, hb, hml, hown, hts⟩ (c_TS_hash l dC dI cI (a := hh (hh (hh (nI 17) (f b)) (f (b + 1))) (f (b + 2))) (b := f (b + 3)) ) ⟨va_cnB 2 hts (gd kw_66) rfl rfl rfl (nst_1 hKN.2) (hts _ kw_35) (by decide +kernel) ⟨Nat.le_of_ble_eq_true rfl, Nat.le_of_ble_eq_true rfl⟩, (hts _ kw_65), trivial⟩ ⟨fun a U g mk q => by obtain ⟨q0, qP, qK⟩ := q; exact ⟨q0, qP, qK.call⟩, fun U hU hW => ⟨rfl, by rw [hU]; exact hP.sub [] rfl, hKN.warm hW⟩⟩ rfl rfl hl.1 rfl (lv_room (Nat.le_of_ble_eq_true rfl)) d_Sg_message_16 ⟨Nat.zero_le _, Nat.zero_le _⟩) ?_
          refine lv_istore_n (lv' := [(2, .int (hh (hh (hh (hh (nI 17) (f b)) (f (b + 1))) (f (b + 2))) (f (b + 3)))), (3, .int (nI 3)), (0, .ref ha), (1, .int (nI b))]) hx hb d_Sg_message_19 rfl hl (by decide) rfl (fun ls hl => ?_)
          refine lv_iinc (k := 1) (v := (nI 4)) (lv' := [(3, .int (nI 4)), (2, .int (hh (hh (hh (hh (nI 17) (f b)) (f (b + 1))) (f (b + 2))) (f (b + 3)))), (0, .ref ha), (1, .int (nI b))]) hx hb d_Sg_message_20 hl rfl (by decide) (by decide) rfl (fun ls hl => ?_)
          refine lv_goto (tgt := 5) hx hb d_Sg_message_23 (by decide) ?_
          refine lv_iload_n hx hb d_Sg_message_5 rfl (lv_at hl 0 rfl) ?_
          refine lv_iconst (v := (nI 4)) hx hb d_Sg_message_6 (by decide) ?_
          refine nb_ge (tgt := 26) hx hb d_Sg_message_7 (by decide) (by decide) (by decide) (fun h_5 => ?_) (fun h_5 => ?_)
          · refine lv_iload_n hx hb d_Sg_message_26 rfl (lv_at hl 1 rfl) ?_
            exact W.iret (v := (hh (hh (hh (hh (nI 17) (f b)) (f (b + 1))) (f (b + 2))) (f (b + 3)))) hx hb hr (fun t ht hW => ⟨_, rfl, (by first | rfl | (simp only []; done) | (simp only []; rfl) | (simp []; done)), ht⟩) (fun q h => by cases h) d_Sg_message_27
          · exact absurd h_5 (by decide)
set_option maxHeartbeats 4000000 in
set_option maxRecDepth 100000 in
theorem c_Sg_digit (l : Launch) (dC : Nat → ClassId) (dI : Nat → Nat → Nat) (cI : ClassId) (mm : Int32) (ch : Nat) (hch : ch < 6) : Met l y_Sg_digit w_Sg_digit ({ frames := 0, cells := 0, slots := 0, locals := 0 }) (va_Pc [.int mm, .int (nI ch)] (fun U => va_P (dC, dI) classes [] U.heap ∧ KN dC dI cI U)) (qr (nI (dgt mm ch))) 0 0 (fun _ => False) := by
  refine Met.ofW (cc := b_Sg_digit) (maxL := 4) (ret := (some .int)) (by decide) rfl ?_
  intro p e s m args below meth c s₁ B hml hv
  obtain ⟨rfl, hP, hKN⟩ := hv
  have hK := hKN.1
  have hx := B.exec
  have hb := B.bytes
  have hr := B.returns
  have hts := fun (w : Cond) (h : w ∈ gt) => atoms_spec (ws := w_Sg_digit) B.pre w (List.mem_cons_of_mem _ h)
  have hown : s.vm.findClass R_Sg = some m.cls := findClass_of_methodNamed B.named
  have hlocks := B.notSynchronized
  have hl := lv_entry ([.int mm, .int (nI ch)]) (n := 4) (Nat.le_of_ble_eq_true rfl)
  rw [lg_entry_eq]
  generalize (lg_sl ([.int mm, .int (nI ch)]) ++ List.replicate (4 - (lg_sl ([.int mm, .int (nI ch)])).length) Slot.unset).toArray = ls at hl ⊢
  have hl : lv_has ls 4 [(0, .int mm), (1, .int (nI ch))] := hl
  refine lv_iload_n hx hb d_Sg_digit_0 rfl (lv_at hl 1 rfl) ?_
  refine lv_iconst (v := (nI 4)) hx hb d_Sg_digit_1 (by decide) ?_
  refine nb_ge (tgt := 14) hx hb d_Sg_digit_2 (by decide) (by first | omega | exact Nat.lt_of_lt_of_le (stt_lt _ _) (by decide)) (by first | omega | exact Nat.lt_of_lt_of_le (stt_lt _ _) (by decide)) (fun h_1 => ?_) (fun h_1 => ?_)
  · refine lv_bipush (v := (nI 60)) hx hb d_Sg_digit_14 (by decide) ?_
    refine lv_istore_n (lv' := [(2, .int (nI 60)), (0, .int mm), (1, .int (nI ch))]) hx hb d_Sg_digit_16 rfl hl (by decide) rfl (fun ls hl => ?_)
    refine lv_iconst (v := (nI 0)) hx hb d_Sg_digit_17 (by decide) ?_
    refine lv_istore_n (lv' := [(3, .int (nI 0)), (2, .int (nI 60)), (0, .int mm), (1, .int (nI ch))]) hx hb d_Sg_digit_18 rfl hl (by decide) rfl (fun ls hl => ?_)
    refine lv_iload_n hx hb d_Sg_digit_19 rfl (lv_at hl 0 rfl) ?_
    refine lv_iconst (v := (nI 4)) hx hb d_Sg_digit_20 (by decide) ?_
    refine nb_ge (tgt := 41) hx hb d_Sg_digit_21 (by decide) (by decide) (by decide) (fun h_2 => ?_) (fun h_2 => ?_)
    · exact absurd h_2 (by decide)
    · refine lv_iload_n hx hb d_Sg_digit_24 rfl (lv_at hl 1 rfl) ?_
      refine lv_iload_n hx hb d_Sg_digit_25 rfl (lv_at hl 2 rfl) ?_
      refine lv_iconst (v := (nI 4)) hx hb d_Sg_digit_26 (by decide) ?_
      refine lv_iload_n hx hb d_Sg_digit_27 rfl (lv_at hl 0 rfl) ?_
      refine lv_imul hx hb d_Sg_digit_28 ?_
      refine tp (y := (nI 0)) (by decide) ?_
      refine lv_iushr (v := ush mm (nI 0)) hx hb d_Sg_digit_29 rfl ?_
      refine lv_bipush (v := (nI 15)) hx hb d_Sg_digit_30 (by decide) ?_
      refine lv_iand hx hb d_Sg_digit_32 ?_
      have g0 := nb4_lt mm 0
      refine tp (nb4_eq mm 0) ?_
      refine lv_isub hx hb d_Sg_digit_33 ?_
      refine tp (pk_sub (by omega)) ?_
      refine lv_istore_n (lv' := [(2, .int (nI (60 - (nb4 mm 0)))), (3, .int (nI 0)), (0, .int mm), (1, .int (nI ch))]) hx hb d_Sg_digit_34 rfl hl (by decide) rfl (fun ls hl => ?_)
      refine lv_iinc (k := 1) (v := (nI 1)) (lv' := [(3, .int (nI 1)), (2, .int (nI (60 - (nb4 mm 0)))), (0, .int mm), (1, .int (nI ch))]) hx hb d_Sg_digit_35 hl rfl (by decide) (by decide) rfl (fun ls hl => ?_)
      refine lv_goto (tgt := 19) hx hb d_Sg_digit_38 (by decide) ?_
      refine lv_iload_n hx hb d_Sg_digit_19 rfl (lv_at hl 0 rfl) ?_
      refine lv_iconst (v := (nI 4)) hx hb d_Sg_digit_20 (by decide) ?_
      refine nb_ge (tgt := 41) hx hb d_Sg_digit_21 (by decide) (by decide) (by decide) (fun h_3 => ?_) (fun h_3 => ?_)
      · exact absurd h_3 (by decide)
      · refine lv_iload_n hx hb d_Sg_digit_24 rfl (lv_at hl 1 rfl) ?_
        refine lv_iload_n hx hb d_Sg_digit_25 rfl (lv_at hl 2 rfl) ?_
        refine lv_iconst (v := (nI 4)) hx hb d_Sg_digit_26 (by decide) ?_
        refine lv_iload_n hx hb d_Sg_digit_27 rfl (lv_at hl 0 rfl) ?_
        refine lv_imul hx hb d_Sg_digit_28 ?_
        refine tp (y := (nI 4)) (by decide) ?_
        refine lv_iushr (v := ush mm (nI 4)) hx hb d_Sg_digit_29 rfl ?_
        refine lv_bipush (v := (nI 15)) hx hb d_Sg_digit_30 (by decide) ?_
        refine lv_iand hx hb d_Sg_digit_32 ?_
        have g1 := nb4_lt mm 1
        refine tp (nb4_eq mm 1) ?_
        refine lv_isub hx hb d_Sg_digit_33 ?_
        refine tp (pk_sub (by omega)) ?_
        refine lv_istore_n (lv' := [(2, .int (nI ((60 - (nb4 mm 0)) - (nb4 mm 1)))), (3, .int (nI 1)), (0, .int mm), (1, .int (nI ch))]) hx hb d_Sg_digit_34 rfl hl (by decide) rfl (fun ls hl => ?_)
        refine lv_iinc (k := 1) (v := (nI 2)) (lv' := [(3, .int (nI 2)), (2, .int (nI ((60 - (nb4 mm 0)) - (nb4 mm 1)))), (0, .int mm), (1, .int (nI ch))]) hx hb d_Sg_digit_35 hl rfl (by decide) (by decide) rfl (fun ls hl => ?_)
        refine lv_goto (tgt := 19) hx hb d_Sg_digit_38 (by decide) ?_
        refine lv_iload_n hx hb d_Sg_digit_19 rfl (lv_at hl 0 rfl) ?_
        refine lv_iconst (v := (nI 4)) hx hb d_Sg_digit_20 (by decide) ?_
        refine nb_ge (tgt := 41) hx hb d_Sg_digit_21 (by decide) (by decide) (by decide) (fun h_4 => ?_) (fun h_4 => ?_)
        · exact absurd h_4 (by decide)
        · refine lv_iload_n hx hb d_Sg_digit_24 rfl (lv_at hl 1 rfl) ?_
          refine lv_iload_n hx hb d_Sg_digit_25 rfl (lv_at hl 2 rfl) ?_
          refine lv_iconst (v := (nI 4)) hx hb d_Sg_digit_26 (by decide) ?_
          refine lv_iload_n hx hb d_Sg_digit_27 rfl (lv_at hl 0 rfl) ?_
          refine lv_imul hx hb d_Sg_digit_28 ?_
          refine tp (y := (nI 8)) (by decide) ?_
          refine lv_iushr (v := ush mm (nI 8)) hx hb d_Sg_digit_29 rfl ?_
          refine lv_bipush (v := (nI 15)) hx hb d_Sg_digit_30 (by decide) ?_
          refine lv_iand hx hb d_Sg_digit_32 ?_
          have g2 := nb4_lt mm 2
          refine tp (nb4_eq mm 2) ?_
          refine lv_isub hx hb d_Sg_digit_33 ?_
          refine tp (pk_sub (by omega)) ?_
          refine lv_istore_n (lv' := [(2, .int (nI (((60 - (nb4 mm 0)) - (nb4 mm 1)) - (nb4 mm 2)))), (3, .int (nI 2)), (0, .int mm), (1, .int (nI ch))]) hx hb d_Sg_digit_34 rfl hl (by decide) rfl (fun ls hl => ?_)
          refine lv_iinc (k := 1) (v := (nI 3)) (lv' := [(3, .int (nI 3)), (2, .int (nI (((60 - (nb4 mm 0)) - (nb4 mm 1)) - (nb4 mm 2)))), (0, .int mm), (1, .int (nI ch))]) hx hb d_Sg_digit_35 hl rfl (by decide) (by decide) rfl (fun ls hl => ?_)
          refine lv_goto (tgt := 19) hx hb d_Sg_digit_38 (by decide) ?_
          refine lv_iload_n hx hb d_Sg_digit_19 rfl (lv_at hl 0 rfl) ?_
          refine lv_iconst (v := (nI 4)) hx hb d_Sg_digit_20 (by decide) ?_
          refine nb_ge (tgt := 41) hx hb d_Sg_digit_21 (by decide) (by decide) (by decide) (fun h_5 => ?_) (fun h_5 => ?_)
          · exact absurd h_5 (by decide)
          · refine lv_iload_n hx hb d_Sg_digit_24 rfl (lv_at hl 1 rfl) ?_
            refine lv_iload_n hx hb d_Sg_digit_25 rfl (lv_at hl 2 rfl) ?_
            refine lv_iconst (v := (nI 4)) hx hb d_Sg_digit_26 (by decide) ?_
            refine lv_iload_n hx hb d_Sg_digit_27 rfl (lv_at hl 0 rfl) ?_
            refine lv_imul hx hb d_Sg_digit_28 ?_
            refine tp (y := (nI 12)) (by decide) ?_
            refine lv_iushr (v := ush mm (nI 12)) hx hb d_Sg_digit_29 rfl ?_
            refine lv_bipush (v := (nI 15)) hx hb d_Sg_digit_30 (by decide) ?_
            refine lv_iand hx hb d_Sg_digit_32 ?_
            have g3 := nb4_lt mm 3
            refine tp (nb4_eq mm 3) ?_
            refine lv_isub hx hb d_Sg_digit_33 ?_
            refine tp (pk_sub (by omega)) ?_
            refine lv_istore_n (lv' := [(2, .int (nI ((((60 - (nb4 mm 0)) - (nb4 mm 1)) - (nb4 mm 2)) - (nb4 mm 3)))), (3, .int (nI 3)), (0, .int mm), (1, .int (nI ch))]) hx hb d_Sg_digit_34 rfl hl (by decide) rfl (fun ls hl => ?_)
            refine lv_iinc (k := 1) (v := (nI 4)) (lv' := [(3, .int (nI 4)), (2, .int (nI ((((60 - (nb4 mm 0)) - (nb4 mm 1)) - (nb4 mm 2)) - (nb4 mm 3)))), (0, .int mm), (1, .int (nI ch))]) hx hb d_Sg_digit_35 hl rfl (by decide) (by decide) rfl (fun ls hl => ?_)
            refine lv_goto (tgt := 19) hx hb d_Sg_digit_38 (by decide) ?_
            refine lv_iload_n hx hb d_Sg_digit_19 rfl (lv_at hl 0 rfl) ?_
            refine lv_iconst (v := (nI 4)) hx hb d_Sg_digit_20 (by decide) ?_
            refine nb_ge (tgt := 41) hx hb d_Sg_digit_21 (by decide) (by decide) (by decide) (fun h_6 => ?_) (fun h_6 => ?_)
            · refine lv_iload_n hx hb d_Sg_digit_41 rfl (lv_at hl 3 rfl) ?_
              refine lv_iconst (v := (nI 4)) hx hb d_Sg_digit_42 (by decide) ?_
              refine nb_ne (tgt := 53) hx hb d_Sg_digit_43 (by decide) (by first | omega | exact Nat.lt_of_lt_of_le (stt_lt _ _) (by decide)) (by first | omega | exact Nat.lt_of_lt_of_le (stt_lt _ _) (by decide)) (fun h_7 => ?_) (fun h_7 => ?_)
              · refine lv_iload_n hx hb d_Sg_digit_53 rfl (lv_at hl 1 rfl) ?_
                refine lv_iconst (v := (nI 4)) hx hb d_Sg_digit_54 (by decide) ?_
                refine lv_iushr (v := ush (nI ((((60 - (nb4 mm 0)) - (nb4 mm 1)) - (nb4 mm 2)) - (nb4 mm 3))) (nI 4)) hx hb d_Sg_digit_55 rfl ?_
                refine tp (y := nI (((((60 - (nb4 mm 0)) - (nb4 mm 1)) - (nb4 mm 2)) - (nb4 mm 3)) / 2 ^ 4)) (pk_ushrN (by omega) (nI 4) 4 (by decide)) ?_
                exact W.iret (v := (nI (((((60 - (nb4 mm 0)) - (nb4 mm 1)) - (nb4 mm 2)) - (nb4 mm 3)) / 2 ^ 4))) hx hb hr (fun t ht hW => ⟨_, rfl, (by first | rfl | (simp only [dgt, rs4, if_pos h_1, if_neg h_7]; done) | (simp only [dgt, rs4, if_pos h_1, if_neg h_7]; rfl) | (simp [dgt, rs4, h_1, h_7]; done)), ht⟩) (fun q h => by cases h) d_Sg_digit_56
              · refine lv_iload_n hx hb d_Sg_digit_46 rfl (lv_at hl 1 rfl) ?_
                refine lv_bipush (v := (nI 15)) hx hb d_Sg_digit_47 (by decide) ?_
                refine lv_iand hx hb d_Sg_digit_49 ?_
                refine tp (pk_andN (by omega) 4 (by decide)) ?_
                refine lv_goto (tgt := 56) hx hb d_Sg_digit_50 (by decide) ?_
                exact W.iret (v := (nI (((((60 - (nb4 mm 0)) - (nb4 mm 1)) - (nb4 mm 2)) - (nb4 mm 3)) % 2 ^ 4))) hx hb hr (fun t ht hW => ⟨_, rfl, (by first | rfl | (simp only [dgt, rs4, if_pos h_1, if_pos h_7]; done) | (simp only [dgt, rs4, if_pos h_1, if_pos h_7]; rfl) | (simp [dgt, rs4, h_1, h_7]; done)), ht⟩) (fun q h => by cases h) d_Sg_digit_56
            · exact absurd h_6 (by decide)
  · refine lv_iload_n hx hb d_Sg_digit_5 rfl (lv_at hl 0 rfl) ?_
    refine lv_iconst (v := (nI 4)) hx hb d_Sg_digit_6 (by decide) ?_
    refine lv_iload_n hx hb d_Sg_digit_7 rfl (lv_at hl 1 rfl) ?_
    refine lv_imul hx hb d_Sg_digit_8 ?_
    refine tp (pk_mul _ _) ?_
    refine lv_iushr (v := ush mm (nI (4 * ch))) hx hb d_Sg_digit_9 rfl ?_
    refine lv_bipush (v := (nI 15)) hx hb d_Sg_digit_10 (by decide) ?_
    refine lv_iand hx hb d_Sg_digit_12 ?_
    refine tp (nb4_eq mm ch) ?_
    exact W.iret (v := (nI (nb4 mm ch))) hx hb hr (fun t ht hW => ⟨_, rfl, (by first | rfl | (simp only [dgt, rs4, if_neg h_1]; done) | (simp only [dgt, rs4, if_neg h_1]; rfl) | (simp [dgt, rs4, h_1]; done)), ht⟩) (fun q h => by cases h) d_Sg_digit_13
end
section
set_option maxHeartbeats 4000000 in
set_option maxRecDepth 100000 in
theorem c_Sg_leaf (l : Launch) (dC : Nat → ClassId) (dI : Nat → Nat → Nat) (cI : ClassId) (ha : Nat) (b : Nat) (q : Nat) (N : Nat) (f : Nat → Int32) (hN : N < 2 ^ 31) (hbN : b + 17 ≤ N) : Met l y_Sg_leaf w_Sg_leaf ({ frames := 2, cells := 0, slots := 0, locals := 47 }) (va_Pc [.ref ha, .int (nI b), .int (nI q)] (fun U => va_P (dC, dI) classes [(ha, .inl (cI, N, .inl f))] U.heap ∧ KN dC dI cI U)) (qr (sgLeaf (fun i => f (b + i)) q)) 0 0 (fun _ => False) := by
  refine Met.ofW (cc := b_Sg_leaf) (maxL := 6) (ret := (some .int)) (by decide) rfl ?_
  intro p e s m args below meth c s₁ B hml hv
  obtain ⟨rfl, hP, hKN⟩ := hv
  have hK := hKN.1
  have hx := B.exec
  have hb := B.bytes
  have hr := B.returns
  have hts := fun (w : Cond) (h : w ∈ gt) => atoms_spec (ws := w_Sg_leaf) B.pre w (List.mem_cons_of_mem _ h)
  have hown : s.vm.findClass R_Sg = some m.cls := findClass_of_methodNamed B.named
  have hlocks := B.notSynchronized
  have hl := lv_entry ([.ref ha, .int (nI b), .int (nI q)]) (n := 6) (Nat.le_of_ble_eq_true rfl)
  rw [lg_entry_eq]
  generalize (lg_sl ([.ref ha, .int (nI b), .int (nI q)]) ++ List.replicate (6 - (lg_sl ([.ref ha, .int (nI b), .int (nI q)])).length) Slot.unset).toArray = ls at hl ⊢
  have hl : lv_has ls 6 [(0, .ref ha), (1, .int (nI b)), (2, .int (nI q))] := hl
  refine lv_aload_n hx hb d_Sg_leaf_0 rfl (lv_at hl 0 rfl) ?_
  refine lv_iload_n hx hb d_Sg_leaf_1 rfl (lv_at hl 1 rfl) ?_
  refine pr_call (va_runS (As := [.ref ha, .int (nI b)]) (rest := []) ⟨hx, hb, hml, hown, hts⟩ (c_Sg_message l dC dI cI (ha := ha) (b := b) (N := N) (f := f) (hN := (by omega)) (hbN := (by omega))) ⟨callB_of 2 hts (gd kw_104) rfl rfl rfl (hts _ kw_37) (hts _ kw_222) (by decide +kernel) ⟨Nat.le_of_ble_eq_true rfl, Nat.le_of_ble_eq_true rfl⟩, (hts _ kw_103)⟩ ⟨fun a U g mk q => by obtain ⟨q0, qP, qK⟩ := q; exact ⟨q0, qP, qK.call⟩, fun U hU hW => ⟨rfl, by rw [hU]; exact hP.sub [0] rfl, hKN.warm hW⟩⟩ rfl rfl hl.1 rfl (lv_room (Nat.le_of_ble_eq_true rfl)) d_Sg_leaf_2 ⟨Nat.zero_le _, Nat.zero_le _⟩) ?_
  refine lv_istore_n (lv' := [(3, .int (ms4 (fun i => f (b + i)))), (0, .ref ha), (1, .int (nI b)), (2, .int (nI q))]) hx hb d_Sg_leaf_5 rfl hl (by decide) rfl (fun ls hl => ?_)
  refine lv_iload_n hx hb d_Sg_leaf_6 rfl (lv_at hl 3 rfl) ?_
  refine lv_istore (lv' := [(4, .int (nI q)), (3, .int (ms4 (fun i => f (b + i)))), (0, .ref ha), (1, .int (nI b)), (2, .int (nI q))]) hx hb d_Sg_leaf_7 hl (by decide) rfl (fun ls hl => ?_)
  refine lv_iconst (v := (nI 0)) hx hb d_Sg_leaf_9 (by decide) ?_
  refine lv_istore (lv' := [(5, .int (nI 0)), (4, .int (nI q)), (3, .int (ms4 (fun i => f (b + i)))), (0, .ref ha), (1, .int (nI b)), (2, .int (nI q))]) hx hb d_Sg_leaf_10 hl (by decide) rfl (fun ls hl => ?_)
  refine lv_iload hx hb d_Sg_leaf_12 (lv_at hl 0 rfl) ?_
  refine lv_bipush (v := (nI 6)) hx hb d_Sg_leaf_14 (by decide) ?_
  refine nb_ge (tgt := 53) hx hb d_Sg_leaf_16 (by decide) (by decide) (by decide) (fun h_1 => ?_) (fun h_1 => ?_)
  · exact absurd h_1 (by decide)
  · refine lv_iload hx hb d_Sg_leaf_19 (lv_at hl 1 rfl) ?_
    refine lv_aload_n hx hb d_Sg_leaf_21 rfl (lv_at hl 3 rfl) ?_
    refine lv_iload_n hx hb d_Sg_leaf_22 rfl (lv_at hl 4 rfl) ?_
    refine lv_iconst (v := (nI 5)) hx hb d_Sg_leaf_23 (by decide) ?_
    refine lv_iadd hx hb d_Sg_leaf_24 ?_
    refine tp (nI_add _ _) ?_
    refine lv_iload hx hb d_Sg_leaf_25 (lv_at hl 0 rfl) ?_
    refine lv_iadd hx hb d_Sg_leaf_27 ?_
    refine tp (y := (nI (b + 5))) (nI_add _ _) ?_
    refine ar_ld (k := b + 5) hx hb hK hP 0 0 rfl rfl (by omega) (by first | decide | omega) d_Sg_leaf_28 ?_
    refine lv_iload hx hb d_Sg_leaf_29 (lv_at hl 0 rfl) ?_
    refine lv_iload_n hx hb d_Sg_leaf_31 rfl (lv_at hl 2 rfl) ?_
    refine lv_iload hx hb d_Sg_leaf_32 (lv_at hl 0 rfl) ?_
    refine pr_call (va_runS (As := [.int (ms4 (fun i => f (b + i))), .int (nI 0)]) (rest := [.int (nI 0), .int (f (b + 5)), .int (nI q)]) ⟨hx, hb, hml, hown, hts⟩ (c_Sg_digit l dC dI cI (mm := ms4 (fun i => f (b + i))) (ch := 0) (hch := (by omega))) ⟨callB_of 2 hts (gd kw_107) rfl rfl rfl (hts _ kw_37) (hts _ kw_223) (by decide +kernel) ⟨Nat.le_of_ble_eq_true rfl, Nat.le_of_ble_eq_true rfl⟩, (hts _ kw_106)⟩ ⟨fun a U g mk q => by obtain ⟨q0, qP, qK⟩ := q; exact ⟨q0, qP, qK.call⟩, fun U hU hW => ⟨rfl, by rw [hU]; exact hP.sub [] rfl, hKN.warm hW⟩⟩ rfl rfl hl.1 rfl (lv_room (Nat.le_of_ble_eq_true rfl)) d_Sg_leaf_34 ⟨Nat.zero_le _, Nat.zero_le _⟩) ?_
    refine lv_bipush (v := (nI 15)) hx hb d_Sg_leaf_37 (by decide) ?_
    refine pr_call (va_runS (As := [.int (f (b + 5)), .int (nI 0), .int (nI (dgt (ms4 (fun i => f (b + i))) 0)), .int (nI 15)]) (rest := [.int (nI q)]) ⟨hx, hb, hml, hown, hts⟩ (c_Sg_walk l dC dI cI (x := f (b + 5)) (ch := 0) (fr := dgt (ms4 (fun i => f (b + i))) 0) (to := 15) (hfr := (by first | omega | exact dgt_le _ _)) (hto := (by first | omega | exact dgt_le _ _))) ⟨callB_of 4 hts (gd kw_71) rfl rfl rfl (hts _ kw_37) (hts _ kw_224) (by decide +kernel) ⟨Nat.le_of_ble_eq_true rfl, Nat.le_of_ble_eq_true rfl⟩, (hts _ kw_70)⟩ ⟨fun a U g mk q => by obtain ⟨q0, qP, qK⟩ := q; exact ⟨q0, qP, qK.call⟩, fun U hU hW => ⟨rfl, by rw [hU]; exact hP.sub [] rfl, hKN.warm hW⟩⟩ rfl rfl hl.1 rfl (lv_room (Nat.le_of_ble_eq_true rfl)) d_Sg_leaf_39 ⟨Nat.zero_le _, Nat.zero_le _⟩) ?_
    refine pr_call (va_runSN (As := [.int (nI q), .int (al 0 (15 - (dgt (ms4 (fun i => f (b + i))) 0)) (dgt (ms4 (fun i => f (b + i))) 0) (f (b + 5)))]) (rest := []) ⟨hx, hb, hml, hown, hts⟩ (c_TS_hash l dC dI cI (a := (nI q)) (b := al 0 (15 - (dgt (ms4 (fun i => f (b + i))) 0)) (dgt (ms4 (fun i => f (b + i))) 0) (f (b + 5))) ) ⟨va_cnB 2 hts (gd kw_66) rfl rfl rfl (nst_1 hKN.2) (hts _ kw_35) (by decide +kernel) ⟨Nat.le_of_ble_eq_true rfl, Nat.le_of_ble_eq_true rfl⟩, (hts _ kw_65), trivial⟩ ⟨fun a U g mk q => by obtain ⟨q0, qP, qK⟩ := q; exact ⟨q0, qP, qK.call⟩, fun U hU hW => ⟨rfl, by rw [hU]; exact hP.sub [] rfl, hKN.warm hW⟩⟩ rfl rfl hl.1 rfl (lv_room (Nat.le_of_ble_eq_true rfl)) d_Sg_leaf_42 ⟨Nat.zero_le _, Nat.zero_le _⟩) ?_
    refine lv_istore (lv' := [(4, .int (hh (nI q) (al 0 (15 - (dgt (ms4 (fun i => f (b + i))) 0)) (dgt (ms4 (fun i => f (b + i))) 0) (f (b + 5))))), (5, .int (nI 0)), (3, .int (ms4 (fun i => f (b + i)))), (0, .ref ha), (1, .int (nI b)), (2, .int (nI q))]) hx hb d_Sg_leaf_45 hl (by decide) rfl (fun ls hl => ?_)
    refine lv_iinc (k := 1) (v := (nI 1)) (lv' := [(5, .int (nI 1)), (4, .int (hh (nI q) (al 0 (15 - (dgt (ms4 (fun i => f (b + i))) 0)) (dgt (ms4 (fun i => f (b + i))) 0) (f (b + 5))))), (3, .int (ms4 (fun i => f (b + i)))), (0, .ref ha), (1, .int (nI b)), (2, .int (nI q))]) hx hb d_Sg_leaf_47 hl rfl (by decide) (by decide) rfl (fun ls hl => ?_)
    refine lv_goto (tgt := 12) hx hb d_Sg_leaf_50 (by decide) ?_
    refine lv_iload hx hb d_Sg_leaf_12 (lv_at hl 0 rfl) ?_
    refine lv_bipush (v := (nI 6)) hx hb d_Sg_leaf_14 (by decide) ?_
    refine nb_ge (tgt := 53) hx hb d_Sg_leaf_16 (by decide) (by decide) (by decide) (fun h_2 => ?_) (fun h_2 => ?_)
    · exact absurd h_2 (by decide)
    · refine lv_iload hx hb d_Sg_leaf_19 (lv_at hl 1 rfl) ?_
      refine lv_aload_n hx hb d_Sg_leaf_21 rfl (lv_at hl 3 rfl) ?_
      refine lv_iload_n hx hb d_Sg_leaf_22 rfl (lv_at hl 4 rfl) ?_
      refine lv_iconst (v := (nI 5)) hx hb d_Sg_leaf_23 (by decide) ?_
      refine lv_iadd hx hb d_Sg_leaf_24 ?_
      refine tp (nI_add _ _) ?_
      refine lv_iload hx hb d_Sg_leaf_25 (lv_at hl 0 rfl) ?_
      refine lv_iadd hx hb d_Sg_leaf_27 ?_
      refine tp (y := (nI (b + 6))) (nI_add _ _) ?_
      refine ar_ld (k := b + 6) hx hb hK hP 0 0 rfl rfl (by omega) (by first | decide | omega) d_Sg_leaf_28 ?_
      refine lv_iload hx hb d_Sg_leaf_29 (lv_at hl 0 rfl) ?_
      refine lv_iload_n hx hb d_Sg_leaf_31 rfl (lv_at hl 2 rfl) ?_
      refine lv_iload hx hb d_Sg_leaf_32 (lv_at hl 0 rfl) ?_
      refine pr_call (va_runS (As := [.int (ms4 (fun i => f (b + i))), .int (nI 1)]) (rest := [.int (nI 1), .int (f (b + 6)), .int (hh (nI q) (al 0 (15 - (dgt (ms4 (fun i => f (b + i))) 0)) (dgt (ms4 (fun i => f (b + i))) 0) (f (b + 5))))]) ⟨hx, hb, hml, hown, hts⟩ (c_Sg_digit l dC dI cI (mm := ms4 (fun i => f (b + i))) (ch := 1) (hch := (by omega))) ⟨callB_of 2 hts (gd kw_107) rfl rfl rfl (hts _ kw_37) (hts _ kw_223) (by decide +kernel) ⟨Nat.le_of_ble_eq_true rfl, Nat.le_of_ble_eq_true rfl⟩, (hts _ kw_106)⟩ ⟨fun a U g mk q => by obtain ⟨q0, qP, qK⟩ := q; exact ⟨q0, qP, qK.call⟩, fun U hU hW => ⟨rfl, by rw [hU]; exact hP.sub [] rfl, hKN.warm hW⟩⟩ rfl rfl hl.1 rfl (lv_room (Nat.le_of_ble_eq_true rfl)) d_Sg_leaf_34 ⟨Nat.zero_le _, Nat.zero_le _⟩) ?_
      refine lv_bipush (v := (nI 15)) hx hb d_Sg_leaf_37 (by decide) ?_
      refine pr_call (va_runS (As := [.int (f (b + 6)), .int (nI 1), .int (nI (dgt (ms4 (fun i => f (b + i))) 1)), .int (nI 15)]) (rest := [.int (hh (nI q) (al 0 (15 - (dgt (ms4 (fun i => f (b + i))) 0)) (dgt (ms4 (fun i => f (b + i))) 0) (f (b + 5))))]) ⟨hx, hb, hml, hown, hts⟩ (c_Sg_walk l dC dI cI (x := f (b + 6)) (ch := 1) (fr := dgt (ms4 (fun i => f (b + i))) 1) (to := 15) (hfr := (by first | omega | exact dgt_le _ _)) (hto := (by first | omega | exact dgt_le _ _))) ⟨callB_of 4 hts (gd kw_71) rfl rfl rfl (hts _ kw_37) (hts _ kw_224) (by decide +kernel) ⟨Nat.le_of_ble_eq_true rfl, Nat.le_of_ble_eq_true rfl⟩, (hts _ kw_70)⟩ ⟨fun a U g mk q => by obtain ⟨q0, qP, qK⟩ := q; exact ⟨q0, qP, qK.call⟩, fun U hU hW => ⟨rfl, by rw [hU]; exact hP.sub [] rfl, hKN.warm hW⟩⟩ rfl rfl hl.1 rfl (lv_room (Nat.le_of_ble_eq_true rfl)) d_Sg_leaf_39 ⟨Nat.zero_le _, Nat.zero_le _⟩) ?_
      refine pr_call (va_runSN (As := [.int (hh (nI q) (al 0 (15 - (dgt (ms4 (fun i => f (b + i))) 0)) (dgt (ms4 (fun i => f (b + i))) 0) (f (b + 5)))), .int (al 1 (15 - (dgt (ms4 (fun i => f (b + i))) 1)) (dgt (ms4 (fun i => f (b + i))) 1) (f (b + 6)))]) (rest := []) ⟨hx, hb, hml, hown, hts⟩ (c_TS_hash l dC dI cI (a := hh (nI q) (al 0 (15 - (dgt (ms4 (fun i => f (b + i))) 0)) (dgt (ms4 (fun i => f (b + i))) 0) (f (b + 5)))) (b := al 1 (15 - (dgt (ms4 (fun i => f (b + i))) 1)) (dgt (ms4 (fun i => f (b + i))) 1) (f (b + 6))) ) ⟨va_cnB 2 hts (gd kw_66) rfl rfl rfl (nst_1 hKN.2) (hts _ kw_35) (by decide +kernel) ⟨Nat.le_of_ble_eq_true rfl, Nat.le_of_ble_eq_true rfl⟩, (hts _ kw_65), trivial⟩ ⟨fun a U g mk q => by obtain ⟨q0, qP, qK⟩ := q; exact ⟨q0, qP, qK.call⟩, fun U hU hW => ⟨rfl, by rw [hU]; exact hP.sub [] rfl, hKN.warm hW⟩⟩ rfl rfl hl.1 rfl (lv_room (Nat.le_of_ble_eq_true rfl)) d_Sg_leaf_42 ⟨Nat.zero_le _, Nat.zero_le _⟩) ?_
      refine lv_istore (lv' := [(4, .int (hh (hh (nI q) (al 0 (15 - (dgt (ms4 (fun i => f (b + i))) 0)) (dgt (ms4 (fun i => f (b + i))) 0) (f (b + 5)))) (al 1 (15 - (dgt (ms4 (fun i => f (b + i))) 1)) (dgt (ms4 (fun i => f (b + i))) 1) (f (b + 6))))), (5, .int (nI 1)), (3, .int (ms4 (fun i => f (b + i)))), (0, .ref ha), (1, .int (nI b)), (2, .int (nI q))]) hx hb d_Sg_leaf_45 hl (by decide) rfl (fun ls hl => ?_)
      refine lv_iinc (k := 1) (v := (nI 2)) (lv' := [(5, .int (nI 2)), (4, .int (hh (hh (nI q) (al 0 (15 - (dgt (ms4 (fun i => f (b + i))) 0)) (dgt (ms4 (fun i => f (b + i))) 0) (f (b + 5)))) (al 1 (15 - (dgt (ms4 (fun i => f (b + i))) 1)) (dgt (ms4 (fun i => f (b + i))) 1) (f (b + 6))))), (3, .int (ms4 (fun i => f (b + i)))), (0, .ref ha), (1, .int (nI b)), (2, .int (nI q))]) hx hb d_Sg_leaf_47 hl rfl (by decide) (by decide) rfl (fun ls hl => ?_)
      refine lv_goto (tgt := 12) hx hb d_Sg_leaf_50 (by decide) ?_
      refine lv_iload hx hb d_Sg_leaf_12 (lv_at hl 0 rfl) ?_
      refine lv_bipush (v := (nI 6)) hx hb d_Sg_leaf_14 (by decide) ?_
      refine nb_ge (tgt := 53) hx hb d_Sg_leaf_16 (by decide) (by decide) (by decide) (fun h_3 => ?_) (fun h_3 => ?_)
      · exact absurd h_3 (by decide)
      · refine lv_iload hx hb d_Sg_leaf_19 (lv_at hl 1 rfl) ?_
        refine lv_aload_n hx hb d_Sg_leaf_21 rfl (lv_at hl 3 rfl) ?_
        refine lv_iload_n hx hb d_Sg_leaf_22 rfl (lv_at hl 4 rfl) ?_
        refine lv_iconst (v := (nI 5)) hx hb d_Sg_leaf_23 (by decide) ?_
        refine lv_iadd hx hb d_Sg_leaf_24 ?_
        refine tp (nI_add _ _) ?_
        refine lv_iload hx hb d_Sg_leaf_25 (lv_at hl 0 rfl) ?_
        refine lv_iadd hx hb d_Sg_leaf_27 ?_
        refine tp (y := (nI (b + 7))) (nI_add _ _) ?_
        refine ar_ld (k := b + 7) hx hb hK hP 0 0 rfl rfl (by omega) (by first | decide | omega) d_Sg_leaf_28 ?_
        refine lv_iload hx hb d_Sg_leaf_29 (lv_at hl 0 rfl) ?_
        refine lv_iload_n hx hb d_Sg_leaf_31 rfl (lv_at hl 2 rfl) ?_
        refine lv_iload hx hb d_Sg_leaf_32 (lv_at hl 0 rfl) ?_
        refine pr_call (va_runS (As := [.int (ms4 (fun i => f (b + i))), .int (nI 2)]) (rest := [.int (nI 2), .int (f (b + 7)), .int (hh (hh (nI q) (al 0 (15 - (dgt (ms4 (fun i => f (b + i))) 0)) (dgt (ms4 (fun i => f (b + i))) 0) (f (b + 5)))) (al 1 (15 - (dgt (ms4 (fun i => f (b + i))) 1)) (dgt (ms4 (fun i => f (b + i))) 1) (f (b + 6))))]) ⟨hx, hb, hml, hown, hts⟩ (c_Sg_digit l dC dI cI (mm := ms4 (fun i => f (b + i))) (ch := 2) (hch := (by omega))) ⟨callB_of 2 hts (gd kw_107) rfl rfl rfl (hts _ kw_37) (hts _ kw_223) (by decide +kernel) ⟨Nat.le_of_ble_eq_true rfl, Nat.le_of_ble_eq_true rfl⟩, (hts _ kw_106)⟩ ⟨fun a U g mk q => by obtain ⟨q0, qP, qK⟩ := q; exact ⟨q0, qP, qK.call⟩, fun U hU hW => ⟨rfl, by rw [hU]; exact hP.sub [] rfl, hKN.warm hW⟩⟩ rfl rfl hl.1 rfl (lv_room (Nat.le_of_ble_eq_true rfl)) d_Sg_leaf_34 ⟨Nat.zero_le _, Nat.zero_le _⟩) ?_
        refine lv_bipush (v := (nI 15)) hx hb d_Sg_leaf_37 (by decide) ?_
        refine pr_call (va_runS (As := [.int (f (b + 7)), .int (nI 2), .int (nI (dgt (ms4 (fun i => f (b + i))) 2)), .int (nI 15)]) (rest := [.int (hh (hh (nI q) (al 0 (15 - (dgt (ms4 (fun i => f (b + i))) 0)) (dgt (ms4 (fun i => f (b + i))) 0) (f (b + 5)))) (al 1 (15 - (dgt (ms4 (fun i => f (b + i))) 1)) (dgt (ms4 (fun i => f (b + i))) 1) (f (b + 6))))]) ⟨hx, hb, hml, hown, hts⟩ (c_Sg_walk l dC dI cI (x := f (b + 7)) (ch := 2) (fr := dgt (ms4 (fun i => f (b + i))) 2) (to := 15) (hfr := (by first | omega | exact dgt_le _ _)) (hto := (by first | omega | exact dgt_le _ _))) ⟨callB_of 4 hts (gd kw_71) rfl rfl rfl (hts _ kw_37) (hts _ kw_224) (by decide +kernel) ⟨Nat.le_of_ble_eq_true rfl, Nat.le_of_ble_eq_true rfl⟩, (hts _ kw_70)⟩ ⟨fun a U g mk q => by obtain ⟨q0, qP, qK⟩ := q; exact ⟨q0, qP, qK.call⟩, fun U hU hW => ⟨rfl, by rw [hU]; exact hP.sub [] rfl, hKN.warm hW⟩⟩ rfl rfl hl.1 rfl (lv_room (Nat.le_of_ble_eq_true rfl)) d_Sg_leaf_39 ⟨Nat.zero_le _, Nat.zero_le _⟩) ?_
        refine pr_call (va_runSN (As := [.int (hh (hh (nI q) (al 0 (15 - (dgt (ms4 (fun i => f (b + i))) 0)) (dgt (ms4 (fun i => f (b + i))) 0) (f (b + 5)))) (al 1 (15 - (dgt (ms4 (fun i => f (b + i))) 1)) (dgt (ms4 (fun i => f (b + i))) 1) (f (b + 6)))), .int (al 2 (15 - (dgt (ms4 (fun i => f (b + i))) 2)) (dgt (ms4 (fun i => f (b + i))) 2) (f (b + 7)))]) (rest := []) ⟨hx, hb, hml, hown, hts⟩ (c_TS_hash l dC dI cI (a := hh (hh (nI q) (al 0 (15 - (dgt (ms4 (fun i => f (b + i))) 0)) (dgt (ms4 (fun i => f (b + i))) 0) (f (b + 5)))) (al 1 (15 - (dgt (ms4 (fun i => f (b + i))) 1)) (dgt (ms4 (fun i => f (b + i))) 1) (f (b + 6)))) (b := al 2 (15 - (dgt (ms4 (fun i => f (b + i))) 2)) (dgt (ms4 (fun i => f (b + i))) 2) (f (b + 7))) ) ⟨va_cnB 2 hts (gd kw_66) rfl rfl rfl (nst_1 hKN.2) (hts _ kw_35) (by decide +kernel) ⟨Nat.le_of_ble_eq_true rfl, Nat.le_of_ble_eq_true rfl⟩, (hts _ kw_65), trivial⟩ ⟨fun a U g mk q => by obtain ⟨q0, qP, qK⟩ := q; exact ⟨q0, qP, qK.call⟩, fun U hU hW => ⟨rfl, by rw [hU]; exact hP.sub [] rfl, hKN.warm hW⟩⟩ rfl rfl hl.1 rfl (lv_room (Nat.le_of_ble_eq_true rfl)) d_Sg_leaf_42 ⟨Nat.zero_le _, Nat.zero_le _⟩) ?_
        refine lv_istore (lv' := [(4, .int (hh (hh (hh (nI q) (al 0 (15 - (dgt (ms4 (fun i => f (b + i))) 0)) (dgt (ms4 (fun i => f (b + i))) 0) (f (b + 5)))) (al 1 (15 - (dgt (ms4 (fun i => f (b + i))) 1)) (dgt (ms4 (fun i => f (b + i))) 1) (f (b + 6)))) (al 2 (15 - (dgt (ms4 (fun i => f (b + i))) 2)) (dgt (ms4 (fun i => f (b + i))) 2) (f (b + 7))))), (5, .int (nI 2)), (3, .int (ms4 (fun i => f (b + i)))), (0, .ref ha), (1, .int (nI b)), (2, .int (nI q))]) hx hb d_Sg_leaf_45 hl (by decide) rfl (fun ls hl => ?_)
        refine lv_iinc (k := 1) (v := (nI 3)) (lv' := [(5, .int (nI 3)), (4, .int (hh (hh (hh (nI q) (al 0 (15 - (dgt (ms4 (fun i => f (b + i))) 0)) (dgt (ms4 (fun i => f (b + i))) 0) (f (b + 5)))) (al 1 (15 - (dgt (ms4 (fun i => f (b + i))) 1)) (dgt (ms4 (fun i => f (b + i))) 1) (f (b + 6)))) (al 2 (15 - (dgt (ms4 (fun i => f (b + i))) 2)) (dgt (ms4 (fun i => f (b + i))) 2) (f (b + 7))))), (3, .int (ms4 (fun i => f (b + i)))), (0, .ref ha), (1, .int (nI b)), (2, .int (nI q))]) hx hb d_Sg_leaf_47 hl rfl (by decide) (by decide) rfl (fun ls hl => ?_)
        refine lv_goto (tgt := 12) hx hb d_Sg_leaf_50 (by decide) ?_
        refine lv_iload hx hb d_Sg_leaf_12 (lv_at hl 0 rfl) ?_
        refine lv_bipush (v := (nI 6)) hx hb d_Sg_leaf_14 (by decide) ?_
        refine nb_ge (tgt := 53) hx hb d_Sg_leaf_16 (by decide) (by decide) (by decide) (fun h_4 => ?_) (fun h_4 => ?_)
        · exact absurd h_4 (by decide)
        · refine lv_iload hx hb d_Sg_leaf_19 (lv_at hl 1 rfl) ?_
          refine lv_aload_n hx hb d_Sg_leaf_21 rfl (lv_at hl 3 rfl) ?_
          refine lv_iload_n hx hb d_Sg_leaf_22 rfl (lv_at hl 4 rfl) ?_
          refine lv_iconst (v := (nI 5)) hx hb d_Sg_leaf_23 (by decide) ?_
          refine lv_iadd hx hb d_Sg_leaf_24 ?_
          refine tp (nI_add _ _) ?_
          refine lv_iload hx hb d_Sg_leaf_25 (lv_at hl 0 rfl) ?_
          refine lv_iadd hx hb d_Sg_leaf_27 ?_
          refine tp (y := (nI (b + 8))) (nI_add _ _) ?_
          refine ar_ld (k := b + 8) hx hb hK hP 0 0 rfl rfl (by omega) (by first | decide | omega) d_Sg_leaf_28 ?_
          refine lv_iload hx hb d_Sg_leaf_29 (lv_at hl 0 rfl) ?_
          refine lv_iload_n hx hb d_Sg_leaf_31 rfl (lv_at hl 2 rfl) ?_
          refine lv_iload hx hb d_Sg_leaf_32 (lv_at hl 0 rfl) ?_
          refine pr_call (va_runS (As := [.int (ms4 (fun i => f (b + i))), .int (nI 3)]) (rest := [.int (nI 3), .int (f (b + 8)), .int (hh (hh (hh (nI q) (al 0 (15 - (dgt (ms4 (fun i => f (b + i))) 0)) (dgt (ms4 (fun i => f (b + i))) 0) (f (b + 5)))) (al 1 (15 - (dgt (ms4 (fun i => f (b + i))) 1)) (dgt (ms4 (fun i => f (b + i))) 1) (f (b + 6)))) (al 2 (15 - (dgt (ms4 (fun i => f (b + i))) 2)) (dgt (ms4 (fun i => f (b + i))) 2) (f (b + 7))))]) ⟨hx, hb, hml, hown, hts⟩ (c_Sg_digit l dC dI cI (mm := ms4 (fun i => f (b + i))) (ch := 3) (hch := (by omega))) ⟨callB_of 2 hts (gd kw_107) rfl rfl rfl (hts _ kw_37) (hts _ kw_223) (by decide +kernel) ⟨Nat.le_of_ble_eq_true rfl, Nat.le_of_ble_eq_true rfl⟩, (hts _ kw_106)⟩ ⟨fun a U g mk q => by obtain ⟨q0, qP, qK⟩ := q; exact ⟨q0, qP, qK.call⟩, fun U hU hW => ⟨rfl, by rw [hU]; exact hP.sub [] rfl, hKN.warm hW⟩⟩ rfl rfl hl.1 rfl (lv_room (Nat.le_of_ble_eq_true rfl)) d_Sg_leaf_34 ⟨Nat.zero_le _, Nat.zero_le _⟩) ?_
          refine lv_bipush (v := (nI 15)) hx hb d_Sg_leaf_37 (by decide) ?_
          refine pr_call (va_runS (As := [.int (f (b + 8)), .int (nI 3), .int (nI (dgt (ms4 (fun i => f (b + i))) 3)), .int (nI 15)]) (rest := [.int (hh (hh (hh (nI q) (al 0 (15 - (dgt (ms4 (fun i => f (b + i))) 0)) (dgt (ms4 (fun i => f (b + i))) 0) (f (b + 5)))) (al 1 (15 - (dgt (ms4 (fun i => f (b + i))) 1)) (dgt (ms4 (fun i => f (b + i))) 1) (f (b + 6)))) (al 2 (15 - (dgt (ms4 (fun i => f (b + i))) 2)) (dgt (ms4 (fun i => f (b + i))) 2) (f (b + 7))))]) ⟨hx, hb, hml, hown, hts⟩ (c_Sg_walk l dC dI cI (x := f (b + 8)) (ch := 3) (fr := dgt (ms4 (fun i => f (b + i))) 3) (to := 15) (hfr := (by first | omega | exact dgt_le _ _)) (hto := (by first | omega | exact dgt_le _ _))) ⟨callB_of 4 hts (gd kw_71) rfl rfl rfl (hts _ kw_37) (hts _ kw_224) (by decide +kernel) ⟨Nat.le_of_ble_eq_true rfl, Nat.le_of_ble_eq_true rfl⟩, (hts _ kw_70)⟩ ⟨fun a U g mk q => by obtain ⟨q0, qP, qK⟩ := q; exact ⟨q0, qP, qK.call⟩, fun U hU hW => ⟨rfl, by rw [hU]; exact hP.sub [] rfl, hKN.warm hW⟩⟩ rfl rfl hl.1 rfl (lv_room (Nat.le_of_ble_eq_true rfl)) d_Sg_leaf_39 ⟨Nat.zero_le _, Nat.zero_le _⟩) ?_
          refine pr_call (va_runSN (As := [.int (hh (hh (hh (nI q) (al 0 (15 - (dgt (ms4 (fun i => f (b + i))) 0)) (dgt (ms4 (fun i => f (b + i))) 0) (f (b + 5)))) (al 1 (15 - (dgt (ms4 (fun i => f (b + i))) 1)) (dgt (ms4 (fun i => f (b + i))) 1) (f (b + 6)))) (al 2 (15 - (dgt (ms4 (fun i => f (b + i))) 2)) (dgt (ms4 (fun i => f (b + i))) 2) (f (b + 7)))), .int (al 3 (15 - (dgt (ms4 (fun i => f (b + i))) 3)) (dgt (ms4 (fun i => f (b + i))) 3) (f (b + 8)))]) (rest := []) ⟨hx, hb, hml, hown, hts⟩ (c_TS_hash l dC dI cI (a := hh (hh (hh (nI q) (al 0 (15 - (dgt (ms4 (fun i => f (b + i))) 0)) (dgt (ms4 (fun i => f (b + i))) 0) (f (b + 5)))) (al 1 (15 - (dgt (ms4 (fun i => f (b + i))) 1)) (dgt (ms4 (fun i => f (b + i))) 1) (f (b + 6)))) (al 2 (15 - (dgt (ms4 (fun i => f (b + i))) 2)) (dgt (ms4 (fun i => f (b + i))) 2) (f (b + 7)))) (b := al 3 (15 - (dgt (ms4 (fun i => f (b + i))) 3)) (dgt (ms4 (fun i => f (b + i))) 3) (f (b + 8))) ) ⟨va_cnB 2 hts (gd kw_66) rfl rfl rfl (nst_1 hKN.2) (hts _ kw_35) (by decide +kernel) ⟨Nat.le_of_ble_eq_true rfl, Nat.le_of_ble_eq_true rfl⟩, (hts _ kw_65), trivial⟩ ⟨fun a U g mk q => by obtain ⟨q0, qP, qK⟩ := q; exact ⟨q0, qP, qK.call⟩, fun U hU hW => ⟨rfl, by rw [hU]; exact hP.sub [] rfl, hKN.warm hW⟩⟩ rfl rfl hl.1 rfl (lv_room (Nat.le_of_ble_eq_true rfl)) d_Sg_leaf_42 ⟨Nat.zero_le _, Nat.zero_le _⟩) ?_
          refine lv_istore (lv' := [(4, .int (hh (hh (hh (hh (nI q) (al 0 (15 - (dgt (ms4 (fun i => f (b + i))) 0)) (dgt (ms4 (fun i => f (b + i))) 0) (f (b + 5)))) (al 1 (15 - (dgt (ms4 (fun i => f (b + i))) 1)) (dgt (ms4 (fun i => f (b + i))) 1) (f (b + 6)))) (al 2 (15 - (dgt (ms4 (fun i => f (b + i))) 2)) (dgt (ms4 (fun i => f (b + i))) 2) (f (b + 7)))) (al 3 (15 - (dgt (ms4 (fun i => f (b + i))) 3)) (dgt (ms4 (fun i => f (b + i))) 3) (f (b + 8))))), (5, .int (nI 3)), (3, .int (ms4 (fun i => f (b + i)))), (0, .ref ha), (1, .int (nI b)), (2, .int (nI q))]) hx hb d_Sg_leaf_45 hl (by decide) rfl (fun ls hl => ?_)
          refine lv_iinc (k := 1) (v := (nI 4)) (lv' := [(5, .int (nI 4)), (4, .int (hh (hh (hh (hh (nI q) (al 0 (15 - (dgt (ms4 (fun i => f (b + i))) 0)) (dgt (ms4 (fun i => f (b + i))) 0) (f (b + 5)))) (al 1 (15 - (dgt (ms4 (fun i => f (b + i))) 1)) (dgt (ms4 (fun i => f (b + i))) 1) (f (b + 6)))) (al 2 (15 - (dgt (ms4 (fun i => f (b + i))) 2)) (dgt (ms4 (fun i => f (b + i))) 2) (f (b + 7)))) (al 3 (15 - (dgt (ms4 (fun i => f (b + i))) 3)) (dgt (ms4 (fun i => f (b + i))) 3) (f (b + 8))))), (3, .int (ms4 (fun i => f (b + i)))), (0, .ref ha), (1, .int (nI b)), (2, .int (nI q))]) hx hb d_Sg_leaf_47 hl rfl (by decide) (by decide) rfl (fun ls hl => ?_)
          refine lv_goto (tgt := 12) hx hb d_Sg_leaf_50 (by decide) ?_
          refine lv_iload hx hb d_Sg_leaf_12 (lv_at hl 0 rfl) ?_
          refine lv_bipush (v := (nI 6)) hx hb d_Sg_leaf_14 (by decide) ?_
          refine nb_ge (tgt := 53) hx hb d_Sg_leaf_16 (by decide) (by decide) (by decide) (fun h_5 => ?_) (fun h_5 => ?_)
          · exact absurd h_5 (by decide)
          · refine lv_iload hx hb d_Sg_leaf_19 (lv_at hl 1 rfl) ?_
            refine lv_aload_n hx hb d_Sg_leaf_21 rfl (lv_at hl 3 rfl) ?_
            refine lv_iload_n hx hb d_Sg_leaf_22 rfl (lv_at hl 4 rfl) ?_
            refine lv_iconst (v := (nI 5)) hx hb d_Sg_leaf_23 (by decide) ?_
            refine lv_iadd hx hb d_Sg_leaf_24 ?_
            refine tp (nI_add _ _) ?_
            refine lv_iload hx hb d_Sg_leaf_25 (lv_at hl 0 rfl) ?_
            refine lv_iadd hx hb d_Sg_leaf_27 ?_
            refine tp (y := (nI (b + 9))) (nI_add _ _) ?_
            refine ar_ld (k := b + 9) hx hb hK hP 0 0 rfl rfl (by omega) (by first | decide | omega) d_Sg_leaf_28 ?_
            refine lv_iload hx hb d_Sg_leaf_29 (lv_at hl 0 rfl) ?_
            refine lv_iload_n hx hb d_Sg_leaf_31 rfl (lv_at hl 2 rfl) ?_
            refine lv_iload hx hb d_Sg_leaf_32 (lv_at hl 0 rfl) ?_
            refine pr_call (va_runS (As := [.int (ms4 (fun i => f (b + i))), .int (nI 4)]) (rest := [.int (nI 4), .int (f (b + 9)), .int (hh (hh (hh (hh (nI q) (al 0 (15 - (dgt (ms4 (fun i => f (b + i))) 0)) (dgt (ms4 (fun i => f (b + i))) 0) (f (b + 5)))) (al 1 (15 - (dgt (ms4 (fun i => f (b + i))) 1)) (dgt (ms4 (fun i => f (b + i))) 1) (f (b + 6)))) (al 2 (15 - (dgt (ms4 (fun i => f (b + i))) 2)) (dgt (ms4 (fun i => f (b + i))) 2) (f (b + 7)))) (al 3 (15 - (dgt (ms4 (fun i => f (b + i))) 3)) (dgt (ms4 (fun i => f (b + i))) 3) (f (b + 8))))]) ⟨hx, hb, hml, hown, hts⟩ (c_Sg_digit l dC dI cI (mm := ms4 (fun i => f (b + i))) (ch := 4) (hch := (by omega))) ⟨callB_of 2 hts (gd kw_107) rfl rfl rfl (hts _ kw_37) (hts _ kw_223) (by decide +kernel) ⟨Nat.le_of_ble_eq_true rfl, Nat.le_of_ble_eq_true rfl⟩, (hts _ kw_106)⟩ ⟨fun a U g mk q => by obtain ⟨q0, qP, qK⟩ := q; exact ⟨q0, qP, qK.call⟩, fun U hU hW => ⟨rfl, by rw [hU]; exact hP.sub [] rfl, hKN.warm hW⟩⟩ rfl rfl hl.1 rfl (lv_room (Nat.le_of_ble_eq_true rfl)) d_Sg_leaf_34 ⟨Nat.zero_le _, Nat.zero_le _⟩) ?_
            refine lv_bipush (v := (nI 15)) hx hb d_Sg_leaf_37 (by decide) ?_
            refine pr_call (va_runS (As := [.int (f (b + 9)), .int (nI 4), .int (nI (dgt (ms4 (fun i => f (b + i))) 4)), .int (nI 15)]) (rest := [.int (hh (hh (hh (hh (nI q) (al 0 (15 - (dgt (ms4 (fun i => f (b + i))) 0)) (dgt (ms4 (fun i => f (b + i))) 0) (f (b + 5)))) (al 1 (15 - (dgt (ms4 (fun i => f (b + i))) 1)) (dgt (ms4 (fun i => f (b + i))) 1) (f (b + 6)))) (al 2 (15 - (dgt (ms4 (fun i => f (b + i))) 2)) (dgt (ms4 (fun i => f (b + i))) 2) (f (b + 7)))) (al 3 (15 - (dgt (ms4 (fun i => f (b + i))) 3)) (dgt (ms4 (fun i => f (b + i))) 3) (f (b + 8))))]) ⟨hx, hb, hml, hown, hts⟩ (c_Sg_walk l dC dI cI (x := f (b + 9)) (ch := 4) (fr := dgt (ms4 (fun i => f (b + i))) 4) (to := 15) (hfr := (by first | omega | exact dgt_le _ _)) (hto := (by first | omega | exact dgt_le _ _))) ⟨callB_of 4 hts (gd kw_71) rfl rfl rfl (hts _ kw_37) (hts _ kw_224) (by decide +kernel) ⟨Nat.le_of_ble_eq_true rfl, Nat.le_of_ble_eq_true rfl⟩, (hts _ kw_70)⟩ ⟨fun a U g mk q => by obtain ⟨q0, qP, qK⟩ := q; exact ⟨q0, qP, qK.call⟩, fun U hU hW => ⟨rfl, by rw [hU]; exact hP.sub [] rfl, hKN.warm hW⟩⟩ rfl rfl hl.1 rfl (lv_room (Nat.le_of_ble_eq_true rfl)) d_Sg_leaf_39 ⟨Nat.zero_le _, Nat.zero_le _⟩) ?_
            refine pr_call (va_runSN (As := [.int (hh (hh (hh (hh (nI q) (al 0 (15 - (dgt (ms4 (fun i => f (b + i))) 0)) (dgt (ms4 (fun i => f (b + i))) 0) (f (b + 5)))) (al 1 (15 - (dgt (ms4 (fun i => f (b + i))) 1)) (dgt (ms4 (fun i => f (b + i))) 1) (f (b + 6)))) (al 2 (15 - (dgt (ms4 (fun i => f (b + i))) 2)) (dgt (ms4 (fun i => f (b + i))) 2) (f (b + 7)))) (al 3 (15 - (dgt (ms4 (fun i => f (b + i))) 3)) (dgt (ms4 (fun i => f (b + i))) 3) (f (b + 8)))), .int (al 4 (15 - (dgt (ms4 (fun i => f (b + i))) 4)) (dgt (ms4 (fun i => f (b + i))) 4) (f (b + 9)))]) (rest := []) ⟨hx, hb, hml, hown, hts⟩ (c_TS_hash l dC dI cI (a := hh (hh (hh (hh (nI q) (al 0 (15 - (dgt (ms4 (fun i => f (b + i))) 0)) (dgt (ms4 (fun i => f (b + i))) 0) (f (b + 5)))) (al 1 (15 - (dgt (ms4 (fun i => f (b + i))) 1)) (dgt (ms4 (fun i => f (b + i))) 1) (f (b + 6)))) (al 2 (15 - (dgt (ms4 (fun i => f (b + i))) 2)) (dgt (ms4 (fun i => f (b + i))) 2) (f (b + 7)))) (al 3 (15 - (dgt (ms4 (fun i => f (b + i))) 3)) (dgt (ms4 (fun i => f (b + i))) 3) (f (b + 8)))) (b := al 4 (15 - (dgt (ms4 (fun i => f (b + i))) 4)) (dgt (ms4 (fun i => f (b + i))) 4) (f (b + 9))) ) ⟨va_cnB 2 hts (gd kw_66) rfl rfl rfl (nst_1 hKN.2) (hts _ kw_35) (by decide +kernel) ⟨Nat.le_of_ble_eq_true rfl, Nat.le_of_ble_eq_true rfl⟩, (hts _ kw_65), trivial⟩ ⟨fun a U g mk q => by obtain ⟨q0, qP, qK⟩ := q; exact ⟨q0, qP, qK.call⟩, fun U hU hW => ⟨rfl, by rw [hU]; exact hP.sub [] rfl, hKN.warm hW⟩⟩ rfl rfl hl.1 rfl (lv_room (Nat.le_of_ble_eq_true rfl)) d_Sg_leaf_42 ⟨Nat.zero_le _, Nat.zero_le _⟩) ?_
            refine lv_istore (lv' := [(4, .int (hh (hh (hh (hh (hh (nI q) (al 0 (15 - (dgt (ms4 (fun i => f (b + i))) 0)) (dgt (ms4 (fun i => f (b + i))) 0) (f (b + 5)))) (al 1 (15 - (dgt (ms4 (fun i => f (b + i))) 1)) (dgt (ms4 (fun i => f (b + i))) 1) (f (b + 6)))) (al 2 (15 - (dgt (ms4 (fun i => f (b + i))) 2)) (dgt (ms4 (fun i => f (b + i))) 2) (f (b + 7)))) (al 3 (15 - (dgt (ms4 (fun i => f (b + i))) 3)) (dgt (ms4 (fun i => f (b + i))) 3) (f (b + 8)))) (al 4 (15 - (dgt (ms4 (fun i => f (b + i))) 4)) (dgt (ms4 (fun i => f (b + i))) 4) (f (b + 9))))), (5, .int (nI 4)), (3, .int (ms4 (fun i => f (b + i)))), (0, .ref ha), (1, .int (nI b)), (2, .int (nI q))]) hx hb d_Sg_leaf_45 hl (by decide) rfl (fun ls hl => ?_)
            refine lv_iinc (k := 1) (v := (nI 5)) (lv' := [(5, .int (nI 5)), (4, .int (hh (hh (hh (hh (hh (nI q) (al 0 (15 - (dgt (ms4 (fun i => f (b + i))) 0)) (dgt (ms4 (fun i => f (b + i))) 0) (f (b + 5)))) (al 1 (15 - (dgt (ms4 (fun i => f (b + i))) 1)) (dgt (ms4 (fun i => f (b + i))) 1) (f (b + 6)))) (al 2 (15 - (dgt (ms4 (fun i => f (b + i))) 2)) (dgt (ms4 (fun i => f (b + i))) 2) (f (b + 7)))) (al 3 (15 - (dgt (ms4 (fun i => f (b + i))) 3)) (dgt (ms4 (fun i => f (b + i))) 3) (f (b + 8)))) (al 4 (15 - (dgt (ms4 (fun i => f (b + i))) 4)) (dgt (ms4 (fun i => f (b + i))) 4) (f (b + 9))))), (3, .int (ms4 (fun i => f (b + i)))), (0, .ref ha), (1, .int (nI b)), (2, .int (nI q))]) hx hb d_Sg_leaf_47 hl rfl (by decide) (by decide) rfl (fun ls hl => ?_)
            refine lv_goto (tgt := 12) hx hb d_Sg_leaf_50 (by decide) ?_
            refine lv_iload hx hb d_Sg_leaf_12 (lv_at hl 0 rfl) ?_
            refine lv_bipush (v := (nI 6)) hx hb d_Sg_leaf_14 (by decide) ?_
            refine nb_ge (tgt := 53) hx hb d_Sg_leaf_16 (by decide) (by decide) (by decide) (fun h_6 => ?_) (fun h_6 => ?_)
            · exact absurd h_6 (by decide)
            · refine lv_iload hx hb d_Sg_leaf_19 (lv_at hl 1 rfl) ?_
              refine lv_aload_n hx hb d_Sg_leaf_21 rfl (lv_at hl 3 rfl) ?_
              refine lv_iload_n hx hb d_Sg_leaf_22 rfl (lv_at hl 4 rfl) ?_
              refine lv_iconst (v := (nI 5)) hx hb d_Sg_leaf_23 (by decide) ?_
              refine lv_iadd hx hb d_Sg_leaf_24 ?_
              refine tp (nI_add _ _) ?_
              refine lv_iload hx hb d_Sg_leaf_25 (lv_at hl 0 rfl) ?_
              refine lv_iadd hx hb d_Sg_leaf_27 ?_
              refine tp (y := (nI (b + 10))) (nI_add _ _) ?_
              refine ar_ld (k := b + 10) hx hb hK hP 0 0 rfl rfl (by omega) (by first | decide | omega) d_Sg_leaf_28 ?_
              refine lv_iload hx hb d_Sg_leaf_29 (lv_at hl 0 rfl) ?_
              refine lv_iload_n hx hb d_Sg_leaf_31 rfl (lv_at hl 2 rfl) ?_
              refine lv_iload hx hb d_Sg_leaf_32 (lv_at hl 0 rfl) ?_
              refine pr_call (va_runS (As := [.int (ms4 (fun i => f (b + i))), .int (nI 5)]) (rest := [.int (nI 5), .int (f (b + 10)), .int (hh (hh (hh (hh (hh (nI q) (al 0 (15 - (dgt (ms4 (fun i => f (b + i))) 0)) (dgt (ms4 (fun i => f (b + i))) 0) (f (b + 5)))) (al 1 (15 - (dgt (ms4 (fun i => f (b + i))) 1)) (dgt (ms4 (fun i => f (b + i))) 1) (f (b + 6)))) (al 2 (15 - (dgt (ms4 (fun i => f (b + i))) 2)) (dgt (ms4 (fun i => f (b + i))) 2) (f (b + 7)))) (al 3 (15 - (dgt (ms4 (fun i => f (b + i))) 3)) (dgt (ms4 (fun i => f (b + i))) 3) (f (b + 8)))) (al 4 (15 - (dgt (ms4 (fun i => f (b + i))) 4)) (dgt (ms4 (fun i => f (b + i))) 4) (f (b + 9))))]) ⟨hx, hb, hml, hown, hts⟩ (c_Sg_digit l dC dI cI (mm := ms4 (fun i => f (b + i))) (ch := 5) (hch := (by omega))) ⟨callB_of 2 hts (gd kw_107) rfl rfl rfl (hts _ kw_37) (hts _ kw_223) (by decide +kernel) ⟨Nat.le_of_ble_eq_true rfl, Nat.le_of_ble_eq_true rfl⟩, (hts _ kw_106)⟩ ⟨fun a U g mk q => by obtain ⟨q0, qP, qK⟩ := q; exact ⟨q0, qP, qK.call⟩, fun U hU hW => ⟨rfl, by rw [hU]; exact hP.sub [] rfl, hKN.warm hW⟩⟩ rfl rfl hl.1 rfl (lv_room (Nat.le_of_ble_eq_true rfl)) d_Sg_leaf_34 ⟨Nat.zero_le _, Nat.zero_le _⟩) ?_
              refine lv_bipush (v := (nI 15)) hx hb d_Sg_leaf_37 (by decide) ?_
              refine pr_call (va_runS (As := [.int (f (b + 10)), .int (nI 5), .int (nI (dgt (ms4 (fun i => f (b + i))) 5)), .int (nI 15)]) (rest := [.int (hh (hh (hh (hh (hh (nI q) (al 0 (15 - (dgt (ms4 (fun i => f (b + i))) 0)) (dgt (ms4 (fun i => f (b + i))) 0) (f (b + 5)))) (al 1 (15 - (dgt (ms4 (fun i => f (b + i))) 1)) (dgt (ms4 (fun i => f (b + i))) 1) (f (b + 6)))) (al 2 (15 - (dgt (ms4 (fun i => f (b + i))) 2)) (dgt (ms4 (fun i => f (b + i))) 2) (f (b + 7)))) (al 3 (15 - (dgt (ms4 (fun i => f (b + i))) 3)) (dgt (ms4 (fun i => f (b + i))) 3) (f (b + 8)))) (al 4 (15 - (dgt (ms4 (fun i => f (b + i))) 4)) (dgt (ms4 (fun i => f (b + i))) 4) (f (b + 9))))]) ⟨hx, hb, hml, hown, hts⟩ (c_Sg_walk l dC dI cI (x := f (b + 10)) (ch := 5) (fr := dgt (ms4 (fun i => f (b + i))) 5) (to := 15) (hfr := (by first | omega | exact dgt_le _ _)) (hto := (by first | omega | exact dgt_le _ _))) ⟨callB_of 4 hts (gd kw_71) rfl rfl rfl (hts _ kw_37) (hts _ kw_224) (by decide +kernel) ⟨Nat.le_of_ble_eq_true rfl, Nat.le_of_ble_eq_true rfl⟩, (hts _ kw_70)⟩ ⟨fun a U g mk q => by obtain ⟨q0, qP, qK⟩ := q; exact ⟨q0, qP, qK.call⟩, fun U hU hW => ⟨rfl, by rw [hU]; exact hP.sub [] rfl, hKN.warm hW⟩⟩ rfl rfl hl.1 rfl (lv_room (Nat.le_of_ble_eq_true rfl)) d_Sg_leaf_39 ⟨Nat.zero_le _, Nat.zero_le _⟩) ?_
              refine pr_call (va_runSN (As := [.int (hh (hh (hh (hh (hh (nI q) (al 0 (15 - (dgt (ms4 (fun i => f (b + i))) 0)) (dgt (ms4 (fun i => f (b + i))) 0) (f (b + 5)))) (al 1 (15 - (dgt (ms4 (fun i => f (b + i))) 1)) (dgt (ms4 (fun i => f (b + i))) 1) (f (b + 6)))) (al 2 (15 - (dgt (ms4 (fun i => f (b + i))) 2)) (dgt (ms4 (fun i => f (b + i))) 2) (f (b + 7)))) (al 3 (15 - (dgt (ms4 (fun i => f (b + i))) 3)) (dgt (ms4 (fun i => f (b + i))) 3) (f (b + 8)))) (al 4 (15 - (dgt (ms4 (fun i => f (b + i))) 4)) (dgt (ms4 (fun i => f (b + i))) 4) (f (b + 9)))), .int (al 5 (15 - (dgt (ms4 (fun i => f (b + i))) 5)) (dgt (ms4 (fun i => f (b + i))) 5) (f (b + 10)))]) (rest := []) ⟨hx, hb, hml, hown, hts⟩ (c_TS_hash l dC dI cI (a := hh (hh (hh (hh (hh (nI q) (al 0 (15 - (dgt (ms4 (fun i => f (b + i))) 0)) (dgt (ms4 (fun i => f (b + i))) 0) (f (b + 5)))) (al 1 (15 - (dgt (ms4 (fun i => f (b + i))) 1)) (dgt (ms4 (fun i => f (b + i))) 1) (f (b + 6)))) (al 2 (15 - (dgt (ms4 (fun i => f (b + i))) 2)) (dgt (ms4 (fun i => f (b + i))) 2) (f (b + 7)))) (al 3 (15 - (dgt (ms4 (fun i => f (b + i))) 3)) (dgt (ms4 (fun i => f (b + i))) 3) (f (b + 8)))) (al 4 (15 - (dgt (ms4 (fun i => f (b + i))) 4)) (dgt (ms4 (fun i => f (b + i))) 4) (f (b + 9)))) (b := al 5 (15 - (dgt (ms4 (fun i => f (b + i))) 5)) (dgt (ms4 (fun i => f (b + i))) 5) (f (b + 10))) ) ⟨va_cnB 2 hts (gd kw_66) rfl rfl rfl (nst_1 hKN.2) (hts _ kw_35) (by decide +kernel) ⟨Nat.le_of_ble_eq_true rfl, Nat.le_of_ble_eq_true rfl⟩, (hts _ kw_65), trivial⟩ ⟨fun a U g mk q => by obtain ⟨q0, qP, qK⟩ := q; exact ⟨q0, qP, qK.call⟩, fun U hU hW => ⟨rfl, by rw [hU]; exact hP.sub [] rfl, hKN.warm hW⟩⟩ rfl rfl hl.1 rfl (lv_room (Nat.le_of_ble_eq_true rfl)) d_Sg_leaf_42 ⟨Nat.zero_le _, Nat.zero_le _⟩) ?_
              refine lv_istore (lv' := [(4, .int (hh (hh (hh (hh (hh (hh (nI q) (al 0 (15 - (dgt (ms4 (fun i => f (b + i))) 0)) (dgt (ms4 (fun i => f (b + i))) 0) (f (b + 5)))) (al 1 (15 - (dgt (ms4 (fun i => f (b + i))) 1)) (dgt (ms4 (fun i => f (b + i))) 1) (f (b + 6)))) (al 2 (15 - (dgt (ms4 (fun i => f (b + i))) 2)) (dgt (ms4 (fun i => f (b + i))) 2) (f (b + 7)))) (al 3 (15 - (dgt (ms4 (fun i => f (b + i))) 3)) (dgt (ms4 (fun i => f (b + i))) 3) (f (b + 8)))) (al 4 (15 - (dgt (ms4 (fun i => f (b + i))) 4)) (dgt (ms4 (fun i => f (b + i))) 4) (f (b + 9)))) (al 5 (15 - (dgt (ms4 (fun i => f (b + i))) 5)) (dgt (ms4 (fun i => f (b + i))) 5) (f (b + 10))))), (5, .int (nI 5)), (3, .int (ms4 (fun i => f (b + i)))), (0, .ref ha), (1, .int (nI b)), (2, .int (nI q))]) hx hb d_Sg_leaf_45 hl (by decide) rfl (fun ls hl => ?_)
              refine lv_iinc (k := 1) (v := (nI 6)) (lv' := [(5, .int (nI 6)), (4, .int (hh (hh (hh (hh (hh (hh (nI q) (al 0 (15 - (dgt (ms4 (fun i => f (b + i))) 0)) (dgt (ms4 (fun i => f (b + i))) 0) (f (b + 5)))) (al 1 (15 - (dgt (ms4 (fun i => f (b + i))) 1)) (dgt (ms4 (fun i => f (b + i))) 1) (f (b + 6)))) (al 2 (15 - (dgt (ms4 (fun i => f (b + i))) 2)) (dgt (ms4 (fun i => f (b + i))) 2) (f (b + 7)))) (al 3 (15 - (dgt (ms4 (fun i => f (b + i))) 3)) (dgt (ms4 (fun i => f (b + i))) 3) (f (b + 8)))) (al 4 (15 - (dgt (ms4 (fun i => f (b + i))) 4)) (dgt (ms4 (fun i => f (b + i))) 4) (f (b + 9)))) (al 5 (15 - (dgt (ms4 (fun i => f (b + i))) 5)) (dgt (ms4 (fun i => f (b + i))) 5) (f (b + 10))))), (3, .int (ms4 (fun i => f (b + i)))), (0, .ref ha), (1, .int (nI b)), (2, .int (nI q))]) hx hb d_Sg_leaf_47 hl rfl (by decide) (by decide) rfl (fun ls hl => ?_)
              refine lv_goto (tgt := 12) hx hb d_Sg_leaf_50 (by decide) ?_
              refine lv_iload hx hb d_Sg_leaf_12 (lv_at hl 0 rfl) ?_
              refine lv_bipush (v := (nI 6)) hx hb d_Sg_leaf_14 (by decide) ?_
              refine nb_ge (tgt := 53) hx hb d_Sg_leaf_16 (by decide) (by decide) (by decide) (fun h_7 => ?_) (fun h_7 => ?_)
              · refine lv_iload hx hb d_Sg_leaf_53 (lv_at hl 1 rfl) ?_
                exact W.iret (v := (hh (hh (hh (hh (hh (hh (nI q) (al 0 (15 - (dgt (ms4 (fun i => f (b + i))) 0)) (dgt (ms4 (fun i => f (b + i))) 0) (f (b + 5)))) (al 1 (15 - (dgt (ms4 (fun i => f (b + i))) 1)) (dgt (ms4 (fun i => f (b + i))) 1) (f (b + 6)))) (al 2 (15 - (dgt (ms4 (fun i => f (b + i))) 2)) (dgt (ms4 (fun i => f (b + i))) 2) (f (b + 7)))) (al 3 (15 - (dgt (ms4 (fun i => f (b + i))) 3)) (dgt (ms4 (fun i => f (b + i))) 3) (f (b + 8)))) (al 4 (15 - (dgt (ms4 (fun i => f (b + i))) 4)) (dgt (ms4 (fun i => f (b + i))) 4) (f (b + 9)))) (al 5 (15 - (dgt (ms4 (fun i => f (b + i))) 5)) (dgt (ms4 (fun i => f (b + i))) 5) (f (b + 10))))) hx hb hr (fun t ht hW => ⟨_, rfl, (by first | rfl | (simp only []; done) | (simp only []; rfl) | (simp []; done)), ht⟩) (fun q h => by cases h) d_Sg_leaf_55
              · exact absurd h_7 (by decide)
set_option maxHeartbeats 4000000 in
set_option maxRecDepth 100000 in
theorem c_Sg_top (l : Launch) (dC : Nat → ClassId) (dI : Nat → Nat → Nat) (cI : ClassId) (ha : Nat) (b : Nat) (lf : Int32) (N : Nat) (f : Nat → Int32) (q : Nat) (hN : N < 2 ^ 31) (hbN : b + 17 ≤ N) (hq8 : q < 8) (hq : f (b + 4) = nI q) : Met l y_Sg_top w_Sg_top ({ frames := 2, cells := 0, slots := 0, locals := 44 }) (va_Pc [.ref ha, .int (nI b), .int lf] (fun U => va_P (dC, dI) classes [(ha, .inl (cI, N, .inl f))] U.heap ∧ KN dC dI cI U)) (qr (sgTop (fun i => f (b + i)) q lf)) 0 0 (fun _ => False) := by
  refine Met.ofW (cc := b_Sg_top) (maxL := 8) (ret := (some .int)) (by decide) rfl ?_
  intro p e s m args below meth c s₁ B hml hv
  obtain ⟨rfl, hP, hKN⟩ := hv
  have hK := hKN.1
  have hx := B.exec
  have hb := B.bytes
  have hr := B.returns
  have hts := fun (w : Cond) (h : w ∈ gt) => atoms_spec (ws := w_Sg_top) B.pre w (List.mem_cons_of_mem _ h)
  have hown : s.vm.findClass R_Sg = some m.cls := findClass_of_methodNamed B.named
  have hlocks := B.notSynchronized
  have hl := lv_entry ([.ref ha, .int (nI b), .int lf]) (n := 8) (Nat.le_of_ble_eq_true rfl)
  rw [lg_entry_eq]
  generalize (lg_sl ([.ref ha, .int (nI b), .int lf]) ++ List.replicate (8 - (lg_sl ([.ref ha, .int (nI b), .int lf])).length) Slot.unset).toArray = ls at hl ⊢
  have hl : lv_has ls 8 [(0, .ref ha), (1, .int (nI b)), (2, .int lf)] := hl
  refine lv_bipush (v := (nI 8)) hx hb d_Sg_top_0 (by decide) ?_
  refine lv_aload_n hx hb d_Sg_top_2 rfl (lv_at hl 0 rfl) ?_
  refine lv_iload_n hx hb d_Sg_top_3 rfl (lv_at hl 1 rfl) ?_
  refine lv_iconst (v := (nI 4)) hx hb d_Sg_top_4 (by decide) ?_
  refine lv_iadd hx hb d_Sg_top_5 ?_
  refine tp (nI_add _ _) ?_
  refine ar_ld (k := b + 4) hx hb hK hP 0 0 rfl rfl (by omega) (by first | decide | omega) d_Sg_top_6 ?_
  refine tp hq ?_
  refine lv_iadd hx hb d_Sg_top_7 ?_
  refine tp (nI_add _ _) ?_
  refine lv_istore_n (lv' := [(3, .int (nI (8 + q))), (0, .ref ha), (1, .int (nI b)), (2, .int lf)]) hx hb d_Sg_top_8 rfl hl (by decide) rfl (fun ls hl => ?_)
  refine lv_iload_n hx hb d_Sg_top_9 rfl (lv_at hl 3 rfl) ?_
  refine lv_istore (lv' := [(4, .int lf), (3, .int (nI (8 + q))), (0, .ref ha), (1, .int (nI b)), (2, .int lf)]) hx hb d_Sg_top_10 hl (by decide) rfl (fun ls hl => ?_)
  refine lv_iconst (v := (nI 0)) hx hb d_Sg_top_12 (by decide) ?_
  refine lv_istore (lv' := [(5, .int (nI 0)), (4, .int lf), (3, .int (nI (8 + q))), (0, .ref ha), (1, .int (nI b)), (2, .int lf)]) hx hb d_Sg_top_13 hl (by decide) rfl (fun ls hl => ?_)
  refine lv_iload hx hb d_Sg_top_15 (lv_at hl 0 rfl) ?_
  refine lv_iconst (v := (nI 3)) hx hb d_Sg_top_17 (by decide) ?_
  refine nb_ge (tgt := 81) hx hb d_Sg_top_18 (by decide) (by decide) (by decide) (fun h_1 => ?_) (fun h_1 => ?_)
  · exact absurd h_1 (by decide)
  · refine lv_aload_n hx hb d_Sg_top_21 rfl (lv_at hl 3 rfl) ?_
    refine lv_iload_n hx hb d_Sg_top_22 rfl (lv_at hl 4 rfl) ?_
    refine lv_bipush (v := (nI 11)) hx hb d_Sg_top_23 (by decide) ?_
    refine lv_iadd hx hb d_Sg_top_25 ?_
    refine tp (nI_add _ _) ?_
    refine lv_iload hx hb d_Sg_top_26 (lv_at hl 0 rfl) ?_
    refine lv_iadd hx hb d_Sg_top_28 ?_
    refine tp (y := (nI (b + 11))) (nI_add _ _) ?_
    refine ar_ld (k := b + 11) hx hb hK hP 0 0 rfl rfl (by omega) (by first | decide | omega) d_Sg_top_29 ?_
    refine lv_istore (lv' := [(6, .int (f (b + 11))), (5, .int (nI 0)), (4, .int lf), (3, .int (nI (8 + q))), (0, .ref ha), (1, .int (nI b)), (2, .int lf)]) hx hb d_Sg_top_30 hl (by decide) rfl (fun ls hl => ?_)
    refine lv_iload_n hx hb d_Sg_top_32 rfl (lv_at hl 3 rfl) ?_
    refine lv_iconst (v := (nI 2)) hx hb d_Sg_top_33 (by decide) ?_
    refine lv_irem hx hb d_Sg_top_34 (by decide) ?_
    refine tp (pk_rem (by omega) (by decide) (by decide)) ?_
    refine nz_ne (tgt := 42) hx hb d_Sg_top_35 (by decide) (by omega) (fun h_2 => ?_) (fun h_2 => ?_)
    · refine lv_iconst (v := (nI 0)) hx hb d_Sg_top_42 (by decide) ?_
      refine lv_istore (lv' := [(7, .int (nI 0)), (6, .int (f (b + 11))), (5, .int (nI 0)), (4, .int lf), (3, .int (nI (8 + q))), (0, .ref ha), (1, .int (nI b)), (2, .int lf)]) hx hb d_Sg_top_43 hl (by decide) rfl (fun ls hl => ?_)
      refine lv_iload_n hx hb d_Sg_top_45 rfl (lv_at hl 4 rfl) ?_
      refine lv_iconst (v := (nI 2)) hx hb d_Sg_top_46 (by decide) ?_
      refine lv_idiv hx hb d_Sg_top_47 (by decide) ?_
      refine tp (pk_div (by omega) (by decide) (by decide)) ?_
      refine lv_istore_n (lv' := [(3, .int (nI ((8 + q) / 2))), (7, .int (nI 0)), (6, .int (f (b + 11))), (5, .int (nI 0)), (4, .int lf), (0, .ref ha), (1, .int (nI b)), (2, .int lf)]) hx hb d_Sg_top_48 rfl hl (by decide) rfl (fun ls hl => ?_)
      refine lv_iload hx hb d_Sg_top_49 (lv_at hl 1 rfl) ?_
      refine nz_eq (tgt := 65) hx hb d_Sg_top_51 (by decide) (by decide) (fun h_3 => ?_) (fun h_3 => ?_)
      · refine lv_iload hx hb d_Sg_top_65 (lv_at hl 2 rfl) ?_
        refine lv_iload hx hb d_Sg_top_67 (lv_at hl 4 rfl) ?_
        refine lv_iload_n hx hb d_Sg_top_69 rfl (lv_at hl 0 rfl) ?_
        refine pr_call (va_runS (As := [.int (f (b + 11)), .int lf, .int (nI ((8 + q) / 2))]) (rest := []) ⟨hx, hb, hml, hown, hts⟩ (c_Sg_above l dC dI cI (a := f (b + 11)) (b := lf) (k := (8 + q) / 2) ) ⟨callB_of 3 hts (gd kw_75) rfl rfl rfl (hts _ kw_37) (hts _ kw_228) (by decide +kernel) ⟨Nat.le_of_ble_eq_true rfl, Nat.le_of_ble_eq_true rfl⟩, (hts _ kw_74)⟩ ⟨fun a U g mk q => by obtain ⟨q0, qP, qK⟩ := q; exact ⟨q0, qP, qK.call⟩, fun U hU hW => ⟨rfl, by rw [hU]; exact hP.sub [] rfl, hKN.warm hW⟩⟩ rfl rfl hl.1 rfl (lv_room (Nat.le_of_ble_eq_true rfl)) d_Sg_top_70 ⟨Nat.zero_le _, Nat.zero_le _⟩) ?_
        refine lv_istore (lv' := [(4, .int (ab (f (b + 11)) lf ((8 + q) / 2))), (3, .int (nI ((8 + q) / 2))), (7, .int (nI 0)), (6, .int (f (b + 11))), (5, .int (nI 0)), (0, .ref ha), (1, .int (nI b)), (2, .int lf)]) hx hb d_Sg_top_73 hl (by decide) rfl (fun ls hl => ?_)
        refine lv_iinc (k := 4) (v := (nI 1)) (lv' := [(5, .int (nI 1)), (4, .int (ab (f (b + 11)) lf ((8 + q) / 2))), (3, .int (nI ((8 + q) / 2))), (7, .int (nI 0)), (6, .int (f (b + 11))), (0, .ref ha), (1, .int (nI b)), (2, .int lf)]) hx hb d_Sg_top_75 hl rfl (by decide) (by decide) rfl (fun ls hl => ?_)
        refine lv_goto (tgt := 15) hx hb d_Sg_top_78 (by decide) ?_
        refine lv_iload hx hb d_Sg_top_15 (lv_at hl 0 rfl) ?_
        refine lv_iconst (v := (nI 3)) hx hb d_Sg_top_17 (by decide) ?_
        refine nb_ge (tgt := 81) hx hb d_Sg_top_18 (by decide) (by decide) (by decide) (fun h_4 => ?_) (fun h_4 => ?_)
        · exact absurd h_4 (by decide)
        · refine lv_aload_n hx hb d_Sg_top_21 rfl (lv_at hl 5 rfl) ?_
          refine lv_iload_n hx hb d_Sg_top_22 rfl (lv_at hl 6 rfl) ?_
          refine lv_bipush (v := (nI 11)) hx hb d_Sg_top_23 (by decide) ?_
          refine lv_iadd hx hb d_Sg_top_25 ?_
          refine tp (nI_add _ _) ?_
          refine lv_iload hx hb d_Sg_top_26 (lv_at hl 0 rfl) ?_
          refine lv_iadd hx hb d_Sg_top_28 ?_
          refine tp (y := (nI (b + 12))) (nI_add _ _) ?_
          refine ar_ld (k := b + 12) hx hb hK hP 0 0 rfl rfl (by omega) (by first | decide | omega) d_Sg_top_29 ?_
          refine lv_istore (lv' := [(6, .int (f (b + 12))), (5, .int (nI 1)), (4, .int (ab (f (b + 11)) lf ((8 + q) / 2))), (3, .int (nI ((8 + q) / 2))), (7, .int (nI 0)), (0, .ref ha), (1, .int (nI b)), (2, .int lf)]) hx hb d_Sg_top_30 hl (by decide) rfl (fun ls hl => ?_)
          refine lv_iload_n hx hb d_Sg_top_32 rfl (lv_at hl 3 rfl) ?_
          refine lv_iconst (v := (nI 2)) hx hb d_Sg_top_33 (by decide) ?_
          refine lv_irem hx hb d_Sg_top_34 (by decide) ?_
          refine tp (pk_rem (by omega) (by decide) (by decide)) ?_
          refine nz_ne (tgt := 42) hx hb d_Sg_top_35 (by decide) (by omega) (fun h_5 => ?_) (fun h_5 => ?_)
          · refine lv_iconst (v := (nI 0)) hx hb d_Sg_top_42 (by decide) ?_
            refine lv_istore (lv' := [(7, .int (nI 0)), (6, .int (f (b + 12))), (5, .int (nI 1)), (4, .int (ab (f (b + 11)) lf ((8 + q) / 2))), (3, .int (nI ((8 + q) / 2))), (0, .ref ha), (1, .int (nI b)), (2, .int lf)]) hx hb d_Sg_top_43 hl (by decide) rfl (fun ls hl => ?_)
            refine lv_iload_n hx hb d_Sg_top_45 rfl (lv_at hl 4 rfl) ?_
            refine lv_iconst (v := (nI 2)) hx hb d_Sg_top_46 (by decide) ?_
            refine lv_idiv hx hb d_Sg_top_47 (by decide) ?_
            refine tp (pk_div (by omega) (by decide) (by decide)) ?_
            refine lv_istore_n (lv' := [(3, .int (nI (((8 + q) / 2) / 2))), (7, .int (nI 0)), (6, .int (f (b + 12))), (5, .int (nI 1)), (4, .int (ab (f (b + 11)) lf ((8 + q) / 2))), (0, .ref ha), (1, .int (nI b)), (2, .int lf)]) hx hb d_Sg_top_48 rfl hl (by decide) rfl (fun ls hl => ?_)
            refine lv_iload hx hb d_Sg_top_49 (lv_at hl 1 rfl) ?_
            refine nz_eq (tgt := 65) hx hb d_Sg_top_51 (by decide) (by decide) (fun h_6 => ?_) (fun h_6 => ?_)
            · refine lv_iload hx hb d_Sg_top_65 (lv_at hl 2 rfl) ?_
              refine lv_iload hx hb d_Sg_top_67 (lv_at hl 4 rfl) ?_
              refine lv_iload_n hx hb d_Sg_top_69 rfl (lv_at hl 0 rfl) ?_
              refine pr_call (va_runS (As := [.int (f (b + 12)), .int (ab (f (b + 11)) lf ((8 + q) / 2)), .int (nI (((8 + q) / 2) / 2))]) (rest := []) ⟨hx, hb, hml, hown, hts⟩ (c_Sg_above l dC dI cI (a := f (b + 12)) (b := ab (f (b + 11)) lf ((8 + q) / 2)) (k := ((8 + q) / 2) / 2) ) ⟨callB_of 3 hts (gd kw_75) rfl rfl rfl (hts _ kw_37) (hts _ kw_228) (by decide +kernel) ⟨Nat.le_of_ble_eq_true rfl, Nat.le_of_ble_eq_true rfl⟩, (hts _ kw_74)⟩ ⟨fun a U g mk q => by obtain ⟨q0, qP, qK⟩ := q; exact ⟨q0, qP, qK.call⟩, fun U hU hW => ⟨rfl, by rw [hU]; exact hP.sub [] rfl, hKN.warm hW⟩⟩ rfl rfl hl.1 rfl (lv_room (Nat.le_of_ble_eq_true rfl)) d_Sg_top_70 ⟨Nat.zero_le _, Nat.zero_le _⟩) ?_
              refine lv_istore (lv' := [(4, .int (ab (f (b + 12)) (ab (f (b + 11)) lf ((8 + q) / 2)) (((8 + q) / 2) / 2))), (3, .int (nI (((8 + q) / 2) / 2))), (7, .int (nI 0)), (6, .int (f (b + 12))), (5, .int (nI 1)), (0, .ref ha), (1, .int (nI b)), (2, .int lf)]) hx hb d_Sg_top_73 hl (by decide) rfl (fun ls hl => ?_)
              refine lv_iinc (k := 4) (v := (nI 2)) (lv' := [(5, .int (nI 2)), (4, .int (ab (f (b + 12)) (ab (f (b + 11)) lf ((8 + q) / 2)) (((8 + q) / 2) / 2))), (3, .int (nI (((8 + q) / 2) / 2))), (7, .int (nI 0)), (6, .int (f (b + 12))), (0, .ref ha), (1, .int (nI b)), (2, .int lf)]) hx hb d_Sg_top_75 hl rfl (by decide) (by decide) rfl (fun ls hl => ?_)
              refine lv_goto (tgt := 15) hx hb d_Sg_top_78 (by decide) ?_
              refine lv_iload hx hb d_Sg_top_15 (lv_at hl 0 rfl) ?_
              refine lv_iconst (v := (nI 3)) hx hb d_Sg_top_17 (by decide) ?_
              refine nb_ge (tgt := 81) hx hb d_Sg_top_18 (by decide) (by decide) (by decide) (fun h_7 => ?_) (fun h_7 => ?_)
              · exact absurd h_7 (by decide)
              · refine lv_aload_n hx hb d_Sg_top_21 rfl (lv_at hl 5 rfl) ?_
                refine lv_iload_n hx hb d_Sg_top_22 rfl (lv_at hl 6 rfl) ?_
                refine lv_bipush (v := (nI 11)) hx hb d_Sg_top_23 (by decide) ?_
                refine lv_iadd hx hb d_Sg_top_25 ?_
                refine tp (nI_add _ _) ?_
                refine lv_iload hx hb d_Sg_top_26 (lv_at hl 0 rfl) ?_
                refine lv_iadd hx hb d_Sg_top_28 ?_
                refine tp (y := (nI (b + 13))) (nI_add _ _) ?_
                refine ar_ld (k := b + 13) hx hb hK hP 0 0 rfl rfl (by omega) (by first | decide | omega) d_Sg_top_29 ?_
                refine lv_istore (lv' := [(6, .int (f (b + 13))), (5, .int (nI 2)), (4, .int (ab (f (b + 12)) (ab (f (b + 11)) lf ((8 + q) / 2)) (((8 + q) / 2) / 2))), (3, .int (nI (((8 + q) / 2) / 2))), (7, .int (nI 0)), (0, .ref ha), (1, .int (nI b)), (2, .int lf)]) hx hb d_Sg_top_30 hl (by decide) rfl (fun ls hl => ?_)
                refine lv_iload_n hx hb d_Sg_top_32 rfl (lv_at hl 3 rfl) ?_
                refine lv_iconst (v := (nI 2)) hx hb d_Sg_top_33 (by decide) ?_
                refine lv_irem hx hb d_Sg_top_34 (by decide) ?_
                refine tp (pk_rem (by omega) (by decide) (by decide)) ?_
                refine nz_ne (tgt := 42) hx hb d_Sg_top_35 (by decide) (by omega) (fun h_8 => ?_) (fun h_8 => ?_)
                · refine lv_iconst (v := (nI 0)) hx hb d_Sg_top_42 (by decide) ?_
                  refine lv_istore (lv' := [(7, .int (nI 0)), (6, .int (f (b + 13))), (5, .int (nI 2)), (4, .int (ab (f (b + 12)) (ab (f (b + 11)) lf ((8 + q) / 2)) (((8 + q) / 2) / 2))), (3, .int (nI (((8 + q) / 2) / 2))), (0, .ref ha), (1, .int (nI b)), (2, .int lf)]) hx hb d_Sg_top_43 hl (by decide) rfl (fun ls hl => ?_)
                  refine lv_iload_n hx hb d_Sg_top_45 rfl (lv_at hl 4 rfl) ?_
                  refine lv_iconst (v := (nI 2)) hx hb d_Sg_top_46 (by decide) ?_
                  refine lv_idiv hx hb d_Sg_top_47 (by decide) ?_
                  refine tp (pk_div (by omega) (by decide) (by decide)) ?_
                  refine lv_istore_n (lv' := [(3, .int (nI ((((8 + q) / 2) / 2) / 2))), (7, .int (nI 0)), (6, .int (f (b + 13))), (5, .int (nI 2)), (4, .int (ab (f (b + 12)) (ab (f (b + 11)) lf ((8 + q) / 2)) (((8 + q) / 2) / 2))), (0, .ref ha), (1, .int (nI b)), (2, .int lf)]) hx hb d_Sg_top_48 rfl hl (by decide) rfl (fun ls hl => ?_)
                  refine lv_iload hx hb d_Sg_top_49 (lv_at hl 1 rfl) ?_
                  refine nz_eq (tgt := 65) hx hb d_Sg_top_51 (by decide) (by decide) (fun h_9 => ?_) (fun h_9 => ?_)
                  · refine lv_iload hx hb d_Sg_top_65 (lv_at hl 2 rfl) ?_
                    refine lv_iload hx hb d_Sg_top_67 (lv_at hl 4 rfl) ?_
                    refine lv_iload_n hx hb d_Sg_top_69 rfl (lv_at hl 0 rfl) ?_
                    refine pr_call (va_runS (As := [.int (f (b + 13)), .int (ab (f (b + 12)) (ab (f (b + 11)) lf ((8 + q) / 2)) (((8 + q) / 2) / 2)), .int (nI ((((8 + q) / 2) / 2) / 2))]) (rest := []) ⟨hx, hb, hml, hown, hts⟩ (c_Sg_above l dC dI cI (a := f (b + 13)) (b := ab (f (b + 12)) (ab (f (b + 11)) lf ((8 + q) / 2)) (((8 + q) / 2) / 2)) (k := (((8 + q) / 2) / 2) / 2) ) ⟨callB_of 3 hts (gd kw_75) rfl rfl rfl (hts _ kw_37) (hts _ kw_228) (by decide +kernel) ⟨Nat.le_of_ble_eq_true rfl, Nat.le_of_ble_eq_true rfl⟩, (hts _ kw_74)⟩ ⟨fun a U g mk q => by obtain ⟨q0, qP, qK⟩ := q; exact ⟨q0, qP, qK.call⟩, fun U hU hW => ⟨rfl, by rw [hU]; exact hP.sub [] rfl, hKN.warm hW⟩⟩ rfl rfl hl.1 rfl (lv_room (Nat.le_of_ble_eq_true rfl)) d_Sg_top_70 ⟨Nat.zero_le _, Nat.zero_le _⟩) ?_
                    refine lv_istore (lv' := [(4, .int (ab (f (b + 13)) (ab (f (b + 12)) (ab (f (b + 11)) lf ((8 + q) / 2)) (((8 + q) / 2) / 2)) ((((8 + q) / 2) / 2) / 2))), (3, .int (nI ((((8 + q) / 2) / 2) / 2))), (7, .int (nI 0)), (6, .int (f (b + 13))), (5, .int (nI 2)), (0, .ref ha), (1, .int (nI b)), (2, .int lf)]) hx hb d_Sg_top_73 hl (by decide) rfl (fun ls hl => ?_)
                    refine lv_iinc (k := 4) (v := (nI 3)) (lv' := [(5, .int (nI 3)), (4, .int (ab (f (b + 13)) (ab (f (b + 12)) (ab (f (b + 11)) lf ((8 + q) / 2)) (((8 + q) / 2) / 2)) ((((8 + q) / 2) / 2) / 2))), (3, .int (nI ((((8 + q) / 2) / 2) / 2))), (7, .int (nI 0)), (6, .int (f (b + 13))), (0, .ref ha), (1, .int (nI b)), (2, .int lf)]) hx hb d_Sg_top_75 hl rfl (by decide) (by decide) rfl (fun ls hl => ?_)
                    refine lv_goto (tgt := 15) hx hb d_Sg_top_78 (by decide) ?_
                    refine lv_iload hx hb d_Sg_top_15 (lv_at hl 0 rfl) ?_
                    refine lv_iconst (v := (nI 3)) hx hb d_Sg_top_17 (by decide) ?_
                    refine nb_ge (tgt := 81) hx hb d_Sg_top_18 (by decide) (by decide) (by decide) (fun h_10 => ?_) (fun h_10 => ?_)
                    · refine lv_iload hx hb d_Sg_top_81 (lv_at hl 1 rfl) ?_
                      exact W.iret (v := (ab (f (b + 13)) (ab (f (b + 12)) (ab (f (b + 11)) lf ((8 + q) / 2)) (((8 + q) / 2) / 2)) ((((8 + q) / 2) / 2) / 2))) hx hb hr (fun t ht hW => ⟨_, rfl, (by first | rfl | (simp only [sgTop, up1, if_neg h_2, if_neg h_5, if_neg h_8]; done) | (simp only [sgTop, up1, if_neg h_2, if_neg h_5, if_neg h_8]; rfl) | (simp [sgTop, up1, h_2, h_5, h_8]; done)), ht⟩) (fun q h => by cases h) d_Sg_top_83
                    · exact absurd h_10 (by decide)
                  · exact absurd h_9 (by decide)
                · refine lv_iconst (v := (nI 1)) hx hb d_Sg_top_38 (by decide) ?_
                  refine lv_goto (tgt := 43) hx hb d_Sg_top_39 (by decide) ?_
                  refine lv_istore (lv' := [(7, .int (nI 1)), (6, .int (f (b + 13))), (5, .int (nI 2)), (4, .int (ab (f (b + 12)) (ab (f (b + 11)) lf ((8 + q) / 2)) (((8 + q) / 2) / 2))), (3, .int (nI (((8 + q) / 2) / 2))), (0, .ref ha), (1, .int (nI b)), (2, .int lf)]) hx hb d_Sg_top_43 hl (by decide) rfl (fun ls hl => ?_)
                  refine lv_iload_n hx hb d_Sg_top_45 rfl (lv_at hl 4 rfl) ?_
                  refine lv_iconst (v := (nI 2)) hx hb d_Sg_top_46 (by decide) ?_
                  refine lv_idiv hx hb d_Sg_top_47 (by decide) ?_
                  refine tp (pk_div (by omega) (by decide) (by decide)) ?_
                  refine lv_istore_n (lv' := [(3, .int (nI ((((8 + q) / 2) / 2) / 2))), (7, .int (nI 1)), (6, .int (f (b + 13))), (5, .int (nI 2)), (4, .int (ab (f (b + 12)) (ab (f (b + 11)) lf ((8 + q) / 2)) (((8 + q) / 2) / 2))), (0, .ref ha), (1, .int (nI b)), (2, .int lf)]) hx hb d_Sg_top_48 rfl hl (by decide) rfl (fun ls hl => ?_)
                  refine lv_iload hx hb d_Sg_top_49 (lv_at hl 1 rfl) ?_
                  refine nz_eq (tgt := 65) hx hb d_Sg_top_51 (by decide) (by decide) (fun h_11 => ?_) (fun h_11 => ?_)
                  · exact absurd h_11 (by decide)
                  · refine lv_iload hx hb d_Sg_top_54 (lv_at hl 4 rfl) ?_
                    refine lv_iload hx hb d_Sg_top_56 (lv_at hl 2 rfl) ?_
                    refine lv_iload_n hx hb d_Sg_top_58 rfl (lv_at hl 0 rfl) ?_
                    refine pr_call (va_runS (As := [.int (ab (f (b + 12)) (ab (f (b + 11)) lf ((8 + q) / 2)) (((8 + q) / 2) / 2)), .int (f (b + 13)), .int (nI ((((8 + q) / 2) / 2) / 2))]) (rest := []) ⟨hx, hb, hml, hown, hts⟩ (c_Sg_above l dC dI cI (a := ab (f (b + 12)) (ab (f (b + 11)) lf ((8 + q) / 2)) (((8 + q) / 2) / 2)) (b := f (b + 13)) (k := (((8 + q) / 2) / 2) / 2) ) ⟨callB_of 3 hts (gd kw_75) rfl rfl rfl (hts _ kw_37) (hts _ kw_228) (by decide +kernel) ⟨Nat.le_of_ble_eq_true rfl, Nat.le_of_ble_eq_true rfl⟩, (hts _ kw_74)⟩ ⟨fun a U g mk q => by obtain ⟨q0, qP, qK⟩ := q; exact ⟨q0, qP, qK.call⟩, fun U hU hW => ⟨rfl, by rw [hU]; exact hP.sub [] rfl, hKN.warm hW⟩⟩ rfl rfl hl.1 rfl (lv_room (Nat.le_of_ble_eq_true rfl)) d_Sg_top_59 ⟨Nat.zero_le _, Nat.zero_le _⟩) ?_
                    refine lv_goto (tgt := 73) hx hb d_Sg_top_62 (by decide) ?_
                    refine lv_istore (lv' := [(4, .int (ab (ab (f (b + 12)) (ab (f (b + 11)) lf ((8 + q) / 2)) (((8 + q) / 2) / 2)) (f (b + 13)) ((((8 + q) / 2) / 2) / 2))), (3, .int (nI ((((8 + q) / 2) / 2) / 2))), (7, .int (nI 1)), (6, .int (f (b + 13))), (5, .int (nI 2)), (0, .ref ha), (1, .int (nI b)), (2, .int lf)]) hx hb d_Sg_top_73 hl (by decide) rfl (fun ls hl => ?_)
                    refine lv_iinc (k := 4) (v := (nI 3)) (lv' := [(5, .int (nI 3)), (4, .int (ab (ab (f (b + 12)) (ab (f (b + 11)) lf ((8 + q) / 2)) (((8 + q) / 2) / 2)) (f (b + 13)) ((((8 + q) / 2) / 2) / 2))), (3, .int (nI ((((8 + q) / 2) / 2) / 2))), (7, .int (nI 1)), (6, .int (f (b + 13))), (0, .ref ha), (1, .int (nI b)), (2, .int lf)]) hx hb d_Sg_top_75 hl rfl (by decide) (by decide) rfl (fun ls hl => ?_)
                    refine lv_goto (tgt := 15) hx hb d_Sg_top_78 (by decide) ?_
                    refine lv_iload hx hb d_Sg_top_15 (lv_at hl 0 rfl) ?_
                    refine lv_iconst (v := (nI 3)) hx hb d_Sg_top_17 (by decide) ?_
                    refine nb_ge (tgt := 81) hx hb d_Sg_top_18 (by decide) (by decide) (by decide) (fun h_12 => ?_) (fun h_12 => ?_)
                    · refine lv_iload hx hb d_Sg_top_81 (lv_at hl 1 rfl) ?_
                      exact W.iret (v := (ab (ab (f (b + 12)) (ab (f (b + 11)) lf ((8 + q) / 2)) (((8 + q) / 2) / 2)) (f (b + 13)) ((((8 + q) / 2) / 2) / 2))) hx hb hr (fun t ht hW => ⟨_, rfl, (by first | rfl | (simp only [sgTop, up1, if_neg h_2, if_neg h_5, if_pos h_8]; done) | (simp only [sgTop, up1, if_neg h_2, if_neg h_5, if_pos h_8]; rfl) | (simp [sgTop, up1, h_2, h_5, h_8]; done)), ht⟩) (fun q h => by cases h) d_Sg_top_83
                    · exact absurd h_12 (by decide)
            · exact absurd h_6 (by decide)
          · refine lv_iconst (v := (nI 1)) hx hb d_Sg_top_38 (by decide) ?_
            refine lv_goto (tgt := 43) hx hb d_Sg_top_39 (by decide) ?_
            refine lv_istore (lv' := [(7, .int (nI 1)), (6, .int (f (b + 12))), (5, .int (nI 1)), (4, .int (ab (f (b + 11)) lf ((8 + q) / 2))), (3, .int (nI ((8 + q) / 2))), (0, .ref ha), (1, .int (nI b)), (2, .int lf)]) hx hb d_Sg_top_43 hl (by decide) rfl (fun ls hl => ?_)
            refine lv_iload_n hx hb d_Sg_top_45 rfl (lv_at hl 4 rfl) ?_
            refine lv_iconst (v := (nI 2)) hx hb d_Sg_top_46 (by decide) ?_
            refine lv_idiv hx hb d_Sg_top_47 (by decide) ?_
            refine tp (pk_div (by omega) (by decide) (by decide)) ?_
            refine lv_istore_n (lv' := [(3, .int (nI (((8 + q) / 2) / 2))), (7, .int (nI 1)), (6, .int (f (b + 12))), (5, .int (nI 1)), (4, .int (ab (f (b + 11)) lf ((8 + q) / 2))), (0, .ref ha), (1, .int (nI b)), (2, .int lf)]) hx hb d_Sg_top_48 rfl hl (by decide) rfl (fun ls hl => ?_)
            refine lv_iload hx hb d_Sg_top_49 (lv_at hl 1 rfl) ?_
            refine nz_eq (tgt := 65) hx hb d_Sg_top_51 (by decide) (by decide) (fun h_13 => ?_) (fun h_13 => ?_)
            · exact absurd h_13 (by decide)
            · refine lv_iload hx hb d_Sg_top_54 (lv_at hl 4 rfl) ?_
              refine lv_iload hx hb d_Sg_top_56 (lv_at hl 2 rfl) ?_
              refine lv_iload_n hx hb d_Sg_top_58 rfl (lv_at hl 0 rfl) ?_
              refine pr_call (va_runS (As := [.int (ab (f (b + 11)) lf ((8 + q) / 2)), .int (f (b + 12)), .int (nI (((8 + q) / 2) / 2))]) (rest := []) ⟨hx, hb, hml, hown, hts⟩ (c_Sg_above l dC dI cI (a := ab (f (b + 11)) lf ((8 + q) / 2)) (b := f (b + 12)) (k := ((8 + q) / 2) / 2) ) ⟨callB_of 3 hts (gd kw_75) rfl rfl rfl (hts _ kw_37) (hts _ kw_228) (by decide +kernel) ⟨Nat.le_of_ble_eq_true rfl, Nat.le_of_ble_eq_true rfl⟩, (hts _ kw_74)⟩ ⟨fun a U g mk q => by obtain ⟨q0, qP, qK⟩ := q; exact ⟨q0, qP, qK.call⟩, fun U hU hW => ⟨rfl, by rw [hU]; exact hP.sub [] rfl, hKN.warm hW⟩⟩ rfl rfl hl.1 rfl (lv_room (Nat.le_of_ble_eq_true rfl)) d_Sg_top_59 ⟨Nat.zero_le _, Nat.zero_le _⟩) ?_
              refine lv_goto (tgt := 73) hx hb d_Sg_top_62 (by decide) ?_
              refine lv_istore (lv' := [(4, .int (ab (ab (f (b + 11)) lf ((8 + q) / 2)) (f (b + 12)) (((8 + q) / 2) / 2))), (3, .int (nI (((8 + q) / 2) / 2))), (7, .int (nI 1)), (6, .int (f (b + 12))), (5, .int (nI 1)), (0, .ref ha), (1, .int (nI b)), (2, .int lf)]) hx hb d_Sg_top_73 hl (by decide) rfl (fun ls hl => ?_)
              refine lv_iinc (k := 4) (v := (nI 2)) (lv' := [(5, .int (nI 2)), (4, .int (ab (ab (f (b + 11)) lf ((8 + q) / 2)) (f (b + 12)) (((8 + q) / 2) / 2))), (3, .int (nI (((8 + q) / 2) / 2))), (7, .int (nI 1)), (6, .int (f (b + 12))), (0, .ref ha), (1, .int (nI b)), (2, .int lf)]) hx hb d_Sg_top_75 hl rfl (by decide) (by decide) rfl (fun ls hl => ?_)
              refine lv_goto (tgt := 15) hx hb d_Sg_top_78 (by decide) ?_
              refine lv_iload hx hb d_Sg_top_15 (lv_at hl 0 rfl) ?_
              refine lv_iconst (v := (nI 3)) hx hb d_Sg_top_17 (by decide) ?_
              refine nb_ge (tgt := 81) hx hb d_Sg_top_18 (by decide) (by decide) (by decide) (fun h_14 => ?_) (fun h_14 => ?_)
              · exact absurd h_14 (by decide)
              · refine lv_aload_n hx hb d_Sg_top_21 rfl (lv_at hl 5 rfl) ?_
                refine lv_iload_n hx hb d_Sg_top_22 rfl (lv_at hl 6 rfl) ?_
                refine lv_bipush (v := (nI 11)) hx hb d_Sg_top_23 (by decide) ?_
                refine lv_iadd hx hb d_Sg_top_25 ?_
                refine tp (nI_add _ _) ?_
                refine lv_iload hx hb d_Sg_top_26 (lv_at hl 0 rfl) ?_
                refine lv_iadd hx hb d_Sg_top_28 ?_
                refine tp (y := (nI (b + 13))) (nI_add _ _) ?_
                refine ar_ld (k := b + 13) hx hb hK hP 0 0 rfl rfl (by omega) (by first | decide | omega) d_Sg_top_29 ?_
                refine lv_istore (lv' := [(6, .int (f (b + 13))), (5, .int (nI 2)), (4, .int (ab (ab (f (b + 11)) lf ((8 + q) / 2)) (f (b + 12)) (((8 + q) / 2) / 2))), (3, .int (nI (((8 + q) / 2) / 2))), (7, .int (nI 1)), (0, .ref ha), (1, .int (nI b)), (2, .int lf)]) hx hb d_Sg_top_30 hl (by decide) rfl (fun ls hl => ?_)
                refine lv_iload_n hx hb d_Sg_top_32 rfl (lv_at hl 3 rfl) ?_
                refine lv_iconst (v := (nI 2)) hx hb d_Sg_top_33 (by decide) ?_
                refine lv_irem hx hb d_Sg_top_34 (by decide) ?_
                refine tp (pk_rem (by omega) (by decide) (by decide)) ?_
                refine nz_ne (tgt := 42) hx hb d_Sg_top_35 (by decide) (by omega) (fun h_15 => ?_) (fun h_15 => ?_)
                · refine lv_iconst (v := (nI 0)) hx hb d_Sg_top_42 (by decide) ?_
                  refine lv_istore (lv' := [(7, .int (nI 0)), (6, .int (f (b + 13))), (5, .int (nI 2)), (4, .int (ab (ab (f (b + 11)) lf ((8 + q) / 2)) (f (b + 12)) (((8 + q) / 2) / 2))), (3, .int (nI (((8 + q) / 2) / 2))), (0, .ref ha), (1, .int (nI b)), (2, .int lf)]) hx hb d_Sg_top_43 hl (by decide) rfl (fun ls hl => ?_)
                  refine lv_iload_n hx hb d_Sg_top_45 rfl (lv_at hl 4 rfl) ?_
                  refine lv_iconst (v := (nI 2)) hx hb d_Sg_top_46 (by decide) ?_
                  refine lv_idiv hx hb d_Sg_top_47 (by decide) ?_
                  refine tp (pk_div (by omega) (by decide) (by decide)) ?_
                  refine lv_istore_n (lv' := [(3, .int (nI ((((8 + q) / 2) / 2) / 2))), (7, .int (nI 0)), (6, .int (f (b + 13))), (5, .int (nI 2)), (4, .int (ab (ab (f (b + 11)) lf ((8 + q) / 2)) (f (b + 12)) (((8 + q) / 2) / 2))), (0, .ref ha), (1, .int (nI b)), (2, .int lf)]) hx hb d_Sg_top_48 rfl hl (by decide) rfl (fun ls hl => ?_)
                  refine lv_iload hx hb d_Sg_top_49 (lv_at hl 1 rfl) ?_
                  refine nz_eq (tgt := 65) hx hb d_Sg_top_51 (by decide) (by decide) (fun h_16 => ?_) (fun h_16 => ?_)
                  · refine lv_iload hx hb d_Sg_top_65 (lv_at hl 2 rfl) ?_
                    refine lv_iload hx hb d_Sg_top_67 (lv_at hl 4 rfl) ?_
                    refine lv_iload_n hx hb d_Sg_top_69 rfl (lv_at hl 0 rfl) ?_
                    refine pr_call (va_runS (As := [.int (f (b + 13)), .int (ab (ab (f (b + 11)) lf ((8 + q) / 2)) (f (b + 12)) (((8 + q) / 2) / 2)), .int (nI ((((8 + q) / 2) / 2) / 2))]) (rest := []) ⟨hx, hb, hml, hown, hts⟩ (c_Sg_above l dC dI cI (a := f (b + 13)) (b := ab (ab (f (b + 11)) lf ((8 + q) / 2)) (f (b + 12)) (((8 + q) / 2) / 2)) (k := (((8 + q) / 2) / 2) / 2) ) ⟨callB_of 3 hts (gd kw_75) rfl rfl rfl (hts _ kw_37) (hts _ kw_228) (by decide +kernel) ⟨Nat.le_of_ble_eq_true rfl, Nat.le_of_ble_eq_true rfl⟩, (hts _ kw_74)⟩ ⟨fun a U g mk q => by obtain ⟨q0, qP, qK⟩ := q; exact ⟨q0, qP, qK.call⟩, fun U hU hW => ⟨rfl, by rw [hU]; exact hP.sub [] rfl, hKN.warm hW⟩⟩ rfl rfl hl.1 rfl (lv_room (Nat.le_of_ble_eq_true rfl)) d_Sg_top_70 ⟨Nat.zero_le _, Nat.zero_le _⟩) ?_
                    refine lv_istore (lv' := [(4, .int (ab (f (b + 13)) (ab (ab (f (b + 11)) lf ((8 + q) / 2)) (f (b + 12)) (((8 + q) / 2) / 2)) ((((8 + q) / 2) / 2) / 2))), (3, .int (nI ((((8 + q) / 2) / 2) / 2))), (7, .int (nI 0)), (6, .int (f (b + 13))), (5, .int (nI 2)), (0, .ref ha), (1, .int (nI b)), (2, .int lf)]) hx hb d_Sg_top_73 hl (by decide) rfl (fun ls hl => ?_)
                    refine lv_iinc (k := 4) (v := (nI 3)) (lv' := [(5, .int (nI 3)), (4, .int (ab (f (b + 13)) (ab (ab (f (b + 11)) lf ((8 + q) / 2)) (f (b + 12)) (((8 + q) / 2) / 2)) ((((8 + q) / 2) / 2) / 2))), (3, .int (nI ((((8 + q) / 2) / 2) / 2))), (7, .int (nI 0)), (6, .int (f (b + 13))), (0, .ref ha), (1, .int (nI b)), (2, .int lf)]) hx hb d_Sg_top_75 hl rfl (by decide) (by decide) rfl (fun ls hl => ?_)
                    refine lv_goto (tgt := 15) hx hb d_Sg_top_78 (by decide) ?_
                    refine lv_iload hx hb d_Sg_top_15 (lv_at hl 0 rfl) ?_
                    refine lv_iconst (v := (nI 3)) hx hb d_Sg_top_17 (by decide) ?_
                    refine nb_ge (tgt := 81) hx hb d_Sg_top_18 (by decide) (by decide) (by decide) (fun h_17 => ?_) (fun h_17 => ?_)
                    · refine lv_iload hx hb d_Sg_top_81 (lv_at hl 1 rfl) ?_
                      exact W.iret (v := (ab (f (b + 13)) (ab (ab (f (b + 11)) lf ((8 + q) / 2)) (f (b + 12)) (((8 + q) / 2) / 2)) ((((8 + q) / 2) / 2) / 2))) hx hb hr (fun t ht hW => ⟨_, rfl, (by first | rfl | (simp only [sgTop, up1, if_neg h_2, if_pos h_5, if_neg h_15]; done) | (simp only [sgTop, up1, if_neg h_2, if_pos h_5, if_neg h_15]; rfl) | (simp [sgTop, up1, h_2, h_5, h_15]; done)), ht⟩) (fun q h => by cases h) d_Sg_top_83
                    · exact absurd h_17 (by decide)
                  · exact absurd h_16 (by decide)
                · refine lv_iconst (v := (nI 1)) hx hb d_Sg_top_38 (by decide) ?_
                  refine lv_goto (tgt := 43) hx hb d_Sg_top_39 (by decide) ?_
                  refine lv_istore (lv' := [(7, .int (nI 1)), (6, .int (f (b + 13))), (5, .int (nI 2)), (4, .int (ab (ab (f (b + 11)) lf ((8 + q) / 2)) (f (b + 12)) (((8 + q) / 2) / 2))), (3, .int (nI (((8 + q) / 2) / 2))), (0, .ref ha), (1, .int (nI b)), (2, .int lf)]) hx hb d_Sg_top_43 hl (by decide) rfl (fun ls hl => ?_)
                  refine lv_iload_n hx hb d_Sg_top_45 rfl (lv_at hl 4 rfl) ?_
                  refine lv_iconst (v := (nI 2)) hx hb d_Sg_top_46 (by decide) ?_
                  refine lv_idiv hx hb d_Sg_top_47 (by decide) ?_
                  refine tp (pk_div (by omega) (by decide) (by decide)) ?_
                  refine lv_istore_n (lv' := [(3, .int (nI ((((8 + q) / 2) / 2) / 2))), (7, .int (nI 1)), (6, .int (f (b + 13))), (5, .int (nI 2)), (4, .int (ab (ab (f (b + 11)) lf ((8 + q) / 2)) (f (b + 12)) (((8 + q) / 2) / 2))), (0, .ref ha), (1, .int (nI b)), (2, .int lf)]) hx hb d_Sg_top_48 rfl hl (by decide) rfl (fun ls hl => ?_)
                  refine lv_iload hx hb d_Sg_top_49 (lv_at hl 1 rfl) ?_
                  refine nz_eq (tgt := 65) hx hb d_Sg_top_51 (by decide) (by decide) (fun h_18 => ?_) (fun h_18 => ?_)
                  · exact absurd h_18 (by decide)
                  · refine lv_iload hx hb d_Sg_top_54 (lv_at hl 4 rfl) ?_
                    refine lv_iload hx hb d_Sg_top_56 (lv_at hl 2 rfl) ?_
                    refine lv_iload_n hx hb d_Sg_top_58 rfl (lv_at hl 0 rfl) ?_
                    refine pr_call (va_runS (As := [.int (ab (ab (f (b + 11)) lf ((8 + q) / 2)) (f (b + 12)) (((8 + q) / 2) / 2)), .int (f (b + 13)), .int (nI ((((8 + q) / 2) / 2) / 2))]) (rest := []) ⟨hx, hb, hml, hown, hts⟩ (c_Sg_above l dC dI cI (a := ab (ab (f (b + 11)) lf ((8 + q) / 2)) (f (b + 12)) (((8 + q) / 2) / 2)) (b := f (b + 13)) (k := (((8 + q) / 2) / 2) / 2) ) ⟨callB_of 3 hts (gd kw_75) rfl rfl rfl (hts _ kw_37) (hts _ kw_228) (by decide +kernel) ⟨Nat.le_of_ble_eq_true rfl, Nat.le_of_ble_eq_true rfl⟩, (hts _ kw_74)⟩ ⟨fun a U g mk q => by obtain ⟨q0, qP, qK⟩ := q; exact ⟨q0, qP, qK.call⟩, fun U hU hW => ⟨rfl, by rw [hU]; exact hP.sub [] rfl, hKN.warm hW⟩⟩ rfl rfl hl.1 rfl (lv_room (Nat.le_of_ble_eq_true rfl)) d_Sg_top_59 ⟨Nat.zero_le _, Nat.zero_le _⟩) ?_
                    refine lv_goto (tgt := 73) hx hb d_Sg_top_62 (by decide) ?_
                    refine lv_istore (lv' := [(4, .int (ab (ab (ab (f (b + 11)) lf ((8 + q) / 2)) (f (b + 12)) (((8 + q) / 2) / 2)) (f (b + 13)) ((((8 + q) / 2) / 2) / 2))), (3, .int (nI ((((8 + q) / 2) / 2) / 2))), (7, .int (nI 1)), (6, .int (f (b + 13))), (5, .int (nI 2)), (0, .ref ha), (1, .int (nI b)), (2, .int lf)]) hx hb d_Sg_top_73 hl (by decide) rfl (fun ls hl => ?_)
                    refine lv_iinc (k := 4) (v := (nI 3)) (lv' := [(5, .int (nI 3)), (4, .int (ab (ab (ab (f (b + 11)) lf ((8 + q) / 2)) (f (b + 12)) (((8 + q) / 2) / 2)) (f (b + 13)) ((((8 + q) / 2) / 2) / 2))), (3, .int (nI ((((8 + q) / 2) / 2) / 2))), (7, .int (nI 1)), (6, .int (f (b + 13))), (0, .ref ha), (1, .int (nI b)), (2, .int lf)]) hx hb d_Sg_top_75 hl rfl (by decide) (by decide) rfl (fun ls hl => ?_)
                    refine lv_goto (tgt := 15) hx hb d_Sg_top_78 (by decide) ?_
                    refine lv_iload hx hb d_Sg_top_15 (lv_at hl 0 rfl) ?_
                    refine lv_iconst (v := (nI 3)) hx hb d_Sg_top_17 (by decide) ?_
                    refine nb_ge (tgt := 81) hx hb d_Sg_top_18 (by decide) (by decide) (by decide) (fun h_19 => ?_) (fun h_19 => ?_)
                    · refine lv_iload hx hb d_Sg_top_81 (lv_at hl 1 rfl) ?_
                      exact W.iret (v := (ab (ab (ab (f (b + 11)) lf ((8 + q) / 2)) (f (b + 12)) (((8 + q) / 2) / 2)) (f (b + 13)) ((((8 + q) / 2) / 2) / 2))) hx hb hr (fun t ht hW => ⟨_, rfl, (by first | rfl | (simp only [sgTop, up1, if_neg h_2, if_pos h_5, if_pos h_15]; done) | (simp only [sgTop, up1, if_neg h_2, if_pos h_5, if_pos h_15]; rfl) | (simp [sgTop, up1, h_2, h_5, h_15]; done)), ht⟩) (fun q h => by cases h) d_Sg_top_83
                    · exact absurd h_19 (by decide)
      · exact absurd h_3 (by decide)
    · refine lv_iconst (v := (nI 1)) hx hb d_Sg_top_38 (by decide) ?_
      refine lv_goto (tgt := 43) hx hb d_Sg_top_39 (by decide) ?_
      refine lv_istore (lv' := [(7, .int (nI 1)), (6, .int (f (b + 11))), (5, .int (nI 0)), (4, .int lf), (3, .int (nI (8 + q))), (0, .ref ha), (1, .int (nI b)), (2, .int lf)]) hx hb d_Sg_top_43 hl (by decide) rfl (fun ls hl => ?_)
      refine lv_iload_n hx hb d_Sg_top_45 rfl (lv_at hl 4 rfl) ?_
      refine lv_iconst (v := (nI 2)) hx hb d_Sg_top_46 (by decide) ?_
      refine lv_idiv hx hb d_Sg_top_47 (by decide) ?_
      refine tp (pk_div (by omega) (by decide) (by decide)) ?_
      refine lv_istore_n (lv' := [(3, .int (nI ((8 + q) / 2))), (7, .int (nI 1)), (6, .int (f (b + 11))), (5, .int (nI 0)), (4, .int lf), (0, .ref ha), (1, .int (nI b)), (2, .int lf)]) hx hb d_Sg_top_48 rfl hl (by decide) rfl (fun ls hl => ?_)
      refine lv_iload hx hb d_Sg_top_49 (lv_at hl 1 rfl) ?_
      refine nz_eq (tgt := 65) hx hb d_Sg_top_51 (by decide) (by decide) (fun h_20 => ?_) (fun h_20 => ?_)
      · exact absurd h_20 (by decide)
      · refine lv_iload hx hb d_Sg_top_54 (lv_at hl 4 rfl) ?_
        refine lv_iload hx hb d_Sg_top_56 (lv_at hl 2 rfl) ?_
        refine lv_iload_n hx hb d_Sg_top_58 rfl (lv_at hl 0 rfl) ?_
        refine pr_call (va_runS (As := [.int lf, .int (f (b + 11)), .int (nI ((8 + q) / 2))]) (rest := []) ⟨hx, hb, hml, hown, hts⟩ (c_Sg_above l dC dI cI (a := lf) (b := f (b + 11)) (k := (8 + q) / 2) ) ⟨callB_of 3 hts (gd kw_75) rfl rfl rfl (hts _ kw_37) (hts _ kw_228) (by decide +kernel) ⟨Nat.le_of_ble_eq_true rfl, Nat.le_of_ble_eq_true rfl⟩, (hts _ kw_74)⟩ ⟨fun a U g mk q => by obtain ⟨q0, qP, qK⟩ := q; exact ⟨q0, qP, qK.call⟩, fun U hU hW => ⟨rfl, by rw [hU]; exact hP.sub [] rfl, hKN.warm hW⟩⟩ rfl rfl hl.1 rfl (lv_room (Nat.le_of_ble_eq_true rfl)) d_Sg_top_59 ⟨Nat.zero_le _, Nat.zero_le _⟩) ?_
        refine lv_goto (tgt := 73) hx hb d_Sg_top_62 (by decide) ?_
        refine lv_istore (lv' := [(4, .int (ab lf (f (b + 11)) ((8 + q) / 2))), (3, .int (nI ((8 + q) / 2))), (7, .int (nI 1)), (6, .int (f (b + 11))), (5, .int (nI 0)), (0, .ref ha), (1, .int (nI b)), (2, .int lf)]) hx hb d_Sg_top_73 hl (by decide) rfl (fun ls hl => ?_)
        refine lv_iinc (k := 4) (v := (nI 1)) (lv' := [(5, .int (nI 1)), (4, .int (ab lf (f (b + 11)) ((8 + q) / 2))), (3, .int (nI ((8 + q) / 2))), (7, .int (nI 1)), (6, .int (f (b + 11))), (0, .ref ha), (1, .int (nI b)), (2, .int lf)]) hx hb d_Sg_top_75 hl rfl (by decide) (by decide) rfl (fun ls hl => ?_)
        refine lv_goto (tgt := 15) hx hb d_Sg_top_78 (by decide) ?_
        refine lv_iload hx hb d_Sg_top_15 (lv_at hl 0 rfl) ?_
        refine lv_iconst (v := (nI 3)) hx hb d_Sg_top_17 (by decide) ?_
        refine nb_ge (tgt := 81) hx hb d_Sg_top_18 (by decide) (by decide) (by decide) (fun h_21 => ?_) (fun h_21 => ?_)
        · exact absurd h_21 (by decide)
        · refine lv_aload_n hx hb d_Sg_top_21 rfl (lv_at hl 5 rfl) ?_
          refine lv_iload_n hx hb d_Sg_top_22 rfl (lv_at hl 6 rfl) ?_
          refine lv_bipush (v := (nI 11)) hx hb d_Sg_top_23 (by decide) ?_
          refine lv_iadd hx hb d_Sg_top_25 ?_
          refine tp (nI_add _ _) ?_
          refine lv_iload hx hb d_Sg_top_26 (lv_at hl 0 rfl) ?_
          refine lv_iadd hx hb d_Sg_top_28 ?_
          refine tp (y := (nI (b + 12))) (nI_add _ _) ?_
          refine ar_ld (k := b + 12) hx hb hK hP 0 0 rfl rfl (by omega) (by first | decide | omega) d_Sg_top_29 ?_
          refine lv_istore (lv' := [(6, .int (f (b + 12))), (5, .int (nI 1)), (4, .int (ab lf (f (b + 11)) ((8 + q) / 2))), (3, .int (nI ((8 + q) / 2))), (7, .int (nI 1)), (0, .ref ha), (1, .int (nI b)), (2, .int lf)]) hx hb d_Sg_top_30 hl (by decide) rfl (fun ls hl => ?_)
          refine lv_iload_n hx hb d_Sg_top_32 rfl (lv_at hl 3 rfl) ?_
          refine lv_iconst (v := (nI 2)) hx hb d_Sg_top_33 (by decide) ?_
          refine lv_irem hx hb d_Sg_top_34 (by decide) ?_
          refine tp (pk_rem (by omega) (by decide) (by decide)) ?_
          refine nz_ne (tgt := 42) hx hb d_Sg_top_35 (by decide) (by omega) (fun h_22 => ?_) (fun h_22 => ?_)
          · refine lv_iconst (v := (nI 0)) hx hb d_Sg_top_42 (by decide) ?_
            refine lv_istore (lv' := [(7, .int (nI 0)), (6, .int (f (b + 12))), (5, .int (nI 1)), (4, .int (ab lf (f (b + 11)) ((8 + q) / 2))), (3, .int (nI ((8 + q) / 2))), (0, .ref ha), (1, .int (nI b)), (2, .int lf)]) hx hb d_Sg_top_43 hl (by decide) rfl (fun ls hl => ?_)
            refine lv_iload_n hx hb d_Sg_top_45 rfl (lv_at hl 4 rfl) ?_
            refine lv_iconst (v := (nI 2)) hx hb d_Sg_top_46 (by decide) ?_
            refine lv_idiv hx hb d_Sg_top_47 (by decide) ?_
            refine tp (pk_div (by omega) (by decide) (by decide)) ?_
            refine lv_istore_n (lv' := [(3, .int (nI (((8 + q) / 2) / 2))), (7, .int (nI 0)), (6, .int (f (b + 12))), (5, .int (nI 1)), (4, .int (ab lf (f (b + 11)) ((8 + q) / 2))), (0, .ref ha), (1, .int (nI b)), (2, .int lf)]) hx hb d_Sg_top_48 rfl hl (by decide) rfl (fun ls hl => ?_)
            refine lv_iload hx hb d_Sg_top_49 (lv_at hl 1 rfl) ?_
            refine nz_eq (tgt := 65) hx hb d_Sg_top_51 (by decide) (by decide) (fun h_23 => ?_) (fun h_23 => ?_)
            · refine lv_iload hx hb d_Sg_top_65 (lv_at hl 2 rfl) ?_
              refine lv_iload hx hb d_Sg_top_67 (lv_at hl 4 rfl) ?_
              refine lv_iload_n hx hb d_Sg_top_69 rfl (lv_at hl 0 rfl) ?_
              refine pr_call (va_runS (As := [.int (f (b + 12)), .int (ab lf (f (b + 11)) ((8 + q) / 2)), .int (nI (((8 + q) / 2) / 2))]) (rest := []) ⟨hx, hb, hml, hown, hts⟩ (c_Sg_above l dC dI cI (a := f (b + 12)) (b := ab lf (f (b + 11)) ((8 + q) / 2)) (k := ((8 + q) / 2) / 2) ) ⟨callB_of 3 hts (gd kw_75) rfl rfl rfl (hts _ kw_37) (hts _ kw_228) (by decide +kernel) ⟨Nat.le_of_ble_eq_true rfl, Nat.le_of_ble_eq_true rfl⟩, (hts _ kw_74)⟩ ⟨fun a U g mk q => by obtain ⟨q0, qP, qK⟩ := q; exact ⟨q0, qP, qK.call⟩, fun U hU hW => ⟨rfl, by rw [hU]; exact hP.sub [] rfl, hKN.warm hW⟩⟩ rfl rfl hl.1 rfl (lv_room (Nat.le_of_ble_eq_true rfl)) d_Sg_top_70 ⟨Nat.zero_le _, Nat.zero_le _⟩) ?_
              refine lv_istore (lv' := [(4, .int (ab (f (b + 12)) (ab lf (f (b + 11)) ((8 + q) / 2)) (((8 + q) / 2) / 2))), (3, .int (nI (((8 + q) / 2) / 2))), (7, .int (nI 0)), (6, .int (f (b + 12))), (5, .int (nI 1)), (0, .ref ha), (1, .int (nI b)), (2, .int lf)]) hx hb d_Sg_top_73 hl (by decide) rfl (fun ls hl => ?_)
              refine lv_iinc (k := 4) (v := (nI 2)) (lv' := [(5, .int (nI 2)), (4, .int (ab (f (b + 12)) (ab lf (f (b + 11)) ((8 + q) / 2)) (((8 + q) / 2) / 2))), (3, .int (nI (((8 + q) / 2) / 2))), (7, .int (nI 0)), (6, .int (f (b + 12))), (0, .ref ha), (1, .int (nI b)), (2, .int lf)]) hx hb d_Sg_top_75 hl rfl (by decide) (by decide) rfl (fun ls hl => ?_)
              refine lv_goto (tgt := 15) hx hb d_Sg_top_78 (by decide) ?_
              refine lv_iload hx hb d_Sg_top_15 (lv_at hl 0 rfl) ?_
              refine lv_iconst (v := (nI 3)) hx hb d_Sg_top_17 (by decide) ?_
              refine nb_ge (tgt := 81) hx hb d_Sg_top_18 (by decide) (by decide) (by decide) (fun h_24 => ?_) (fun h_24 => ?_)
              · exact absurd h_24 (by decide)
              · refine lv_aload_n hx hb d_Sg_top_21 rfl (lv_at hl 5 rfl) ?_
                refine lv_iload_n hx hb d_Sg_top_22 rfl (lv_at hl 6 rfl) ?_
                refine lv_bipush (v := (nI 11)) hx hb d_Sg_top_23 (by decide) ?_
                refine lv_iadd hx hb d_Sg_top_25 ?_
                refine tp (nI_add _ _) ?_
                refine lv_iload hx hb d_Sg_top_26 (lv_at hl 0 rfl) ?_
                refine lv_iadd hx hb d_Sg_top_28 ?_
                refine tp (y := (nI (b + 13))) (nI_add _ _) ?_
                refine ar_ld (k := b + 13) hx hb hK hP 0 0 rfl rfl (by omega) (by first | decide | omega) d_Sg_top_29 ?_
                refine lv_istore (lv' := [(6, .int (f (b + 13))), (5, .int (nI 2)), (4, .int (ab (f (b + 12)) (ab lf (f (b + 11)) ((8 + q) / 2)) (((8 + q) / 2) / 2))), (3, .int (nI (((8 + q) / 2) / 2))), (7, .int (nI 0)), (0, .ref ha), (1, .int (nI b)), (2, .int lf)]) hx hb d_Sg_top_30 hl (by decide) rfl (fun ls hl => ?_)
                refine lv_iload_n hx hb d_Sg_top_32 rfl (lv_at hl 3 rfl) ?_
                refine lv_iconst (v := (nI 2)) hx hb d_Sg_top_33 (by decide) ?_
                refine lv_irem hx hb d_Sg_top_34 (by decide) ?_
                refine tp (pk_rem (by omega) (by decide) (by decide)) ?_
                refine nz_ne (tgt := 42) hx hb d_Sg_top_35 (by decide) (by omega) (fun h_25 => ?_) (fun h_25 => ?_)
                · refine lv_iconst (v := (nI 0)) hx hb d_Sg_top_42 (by decide) ?_
                  refine lv_istore (lv' := [(7, .int (nI 0)), (6, .int (f (b + 13))), (5, .int (nI 2)), (4, .int (ab (f (b + 12)) (ab lf (f (b + 11)) ((8 + q) / 2)) (((8 + q) / 2) / 2))), (3, .int (nI (((8 + q) / 2) / 2))), (0, .ref ha), (1, .int (nI b)), (2, .int lf)]) hx hb d_Sg_top_43 hl (by decide) rfl (fun ls hl => ?_)
                  refine lv_iload_n hx hb d_Sg_top_45 rfl (lv_at hl 4 rfl) ?_
                  refine lv_iconst (v := (nI 2)) hx hb d_Sg_top_46 (by decide) ?_
                  refine lv_idiv hx hb d_Sg_top_47 (by decide) ?_
                  refine tp (pk_div (by omega) (by decide) (by decide)) ?_
                  refine lv_istore_n (lv' := [(3, .int (nI ((((8 + q) / 2) / 2) / 2))), (7, .int (nI 0)), (6, .int (f (b + 13))), (5, .int (nI 2)), (4, .int (ab (f (b + 12)) (ab lf (f (b + 11)) ((8 + q) / 2)) (((8 + q) / 2) / 2))), (0, .ref ha), (1, .int (nI b)), (2, .int lf)]) hx hb d_Sg_top_48 rfl hl (by decide) rfl (fun ls hl => ?_)
                  refine lv_iload hx hb d_Sg_top_49 (lv_at hl 1 rfl) ?_
                  refine nz_eq (tgt := 65) hx hb d_Sg_top_51 (by decide) (by decide) (fun h_26 => ?_) (fun h_26 => ?_)
                  · refine lv_iload hx hb d_Sg_top_65 (lv_at hl 2 rfl) ?_
                    refine lv_iload hx hb d_Sg_top_67 (lv_at hl 4 rfl) ?_
                    refine lv_iload_n hx hb d_Sg_top_69 rfl (lv_at hl 0 rfl) ?_
                    refine pr_call (va_runS (As := [.int (f (b + 13)), .int (ab (f (b + 12)) (ab lf (f (b + 11)) ((8 + q) / 2)) (((8 + q) / 2) / 2)), .int (nI ((((8 + q) / 2) / 2) / 2))]) (rest := []) ⟨hx, hb, hml, hown, hts⟩ (c_Sg_above l dC dI cI (a := f (b + 13)) (b := ab (f (b + 12)) (ab lf (f (b + 11)) ((8 + q) / 2)) (((8 + q) / 2) / 2)) (k := (((8 + q) / 2) / 2) / 2) ) ⟨callB_of 3 hts (gd kw_75) rfl rfl rfl (hts _ kw_37) (hts _ kw_228) (by decide +kernel) ⟨Nat.le_of_ble_eq_true rfl, Nat.le_of_ble_eq_true rfl⟩, (hts _ kw_74)⟩ ⟨fun a U g mk q => by obtain ⟨q0, qP, qK⟩ := q; exact ⟨q0, qP, qK.call⟩, fun U hU hW => ⟨rfl, by rw [hU]; exact hP.sub [] rfl, hKN.warm hW⟩⟩ rfl rfl hl.1 rfl (lv_room (Nat.le_of_ble_eq_true rfl)) d_Sg_top_70 ⟨Nat.zero_le _, Nat.zero_le _⟩) ?_
                    refine lv_istore (lv' := [(4, .int (ab (f (b + 13)) (ab (f (b + 12)) (ab lf (f (b + 11)) ((8 + q) / 2)) (((8 + q) / 2) / 2)) ((((8 + q) / 2) / 2) / 2))), (3, .int (nI ((((8 + q) / 2) / 2) / 2))), (7, .int (nI 0)), (6, .int (f (b + 13))), (5, .int (nI 2)), (0, .ref ha), (1, .int (nI b)), (2, .int lf)]) hx hb d_Sg_top_73 hl (by decide) rfl (fun ls hl => ?_)
                    refine lv_iinc (k := 4) (v := (nI 3)) (lv' := [(5, .int (nI 3)), (4, .int (ab (f (b + 13)) (ab (f (b + 12)) (ab lf (f (b + 11)) ((8 + q) / 2)) (((8 + q) / 2) / 2)) ((((8 + q) / 2) / 2) / 2))), (3, .int (nI ((((8 + q) / 2) / 2) / 2))), (7, .int (nI 0)), (6, .int (f (b + 13))), (0, .ref ha), (1, .int (nI b)), (2, .int lf)]) hx hb d_Sg_top_75 hl rfl (by decide) (by decide) rfl (fun ls hl => ?_)
                    refine lv_goto (tgt := 15) hx hb d_Sg_top_78 (by decide) ?_
                    refine lv_iload hx hb d_Sg_top_15 (lv_at hl 0 rfl) ?_
                    refine lv_iconst (v := (nI 3)) hx hb d_Sg_top_17 (by decide) ?_
                    refine nb_ge (tgt := 81) hx hb d_Sg_top_18 (by decide) (by decide) (by decide) (fun h_27 => ?_) (fun h_27 => ?_)
                    · refine lv_iload hx hb d_Sg_top_81 (lv_at hl 1 rfl) ?_
                      exact W.iret (v := (ab (f (b + 13)) (ab (f (b + 12)) (ab lf (f (b + 11)) ((8 + q) / 2)) (((8 + q) / 2) / 2)) ((((8 + q) / 2) / 2) / 2))) hx hb hr (fun t ht hW => ⟨_, rfl, (by first | rfl | (simp only [sgTop, up1, if_pos h_2, if_neg h_22, if_neg h_25]; done) | (simp only [sgTop, up1, if_pos h_2, if_neg h_22, if_neg h_25]; rfl) | (simp [sgTop, up1, h_2, h_22, h_25]; done)), ht⟩) (fun q h => by cases h) d_Sg_top_83
                    · exact absurd h_27 (by decide)
                  · exact absurd h_26 (by decide)
                · refine lv_iconst (v := (nI 1)) hx hb d_Sg_top_38 (by decide) ?_
                  refine lv_goto (tgt := 43) hx hb d_Sg_top_39 (by decide) ?_
                  refine lv_istore (lv' := [(7, .int (nI 1)), (6, .int (f (b + 13))), (5, .int (nI 2)), (4, .int (ab (f (b + 12)) (ab lf (f (b + 11)) ((8 + q) / 2)) (((8 + q) / 2) / 2))), (3, .int (nI (((8 + q) / 2) / 2))), (0, .ref ha), (1, .int (nI b)), (2, .int lf)]) hx hb d_Sg_top_43 hl (by decide) rfl (fun ls hl => ?_)
                  refine lv_iload_n hx hb d_Sg_top_45 rfl (lv_at hl 4 rfl) ?_
                  refine lv_iconst (v := (nI 2)) hx hb d_Sg_top_46 (by decide) ?_
                  refine lv_idiv hx hb d_Sg_top_47 (by decide) ?_
                  refine tp (pk_div (by omega) (by decide) (by decide)) ?_
                  refine lv_istore_n (lv' := [(3, .int (nI ((((8 + q) / 2) / 2) / 2))), (7, .int (nI 1)), (6, .int (f (b + 13))), (5, .int (nI 2)), (4, .int (ab (f (b + 12)) (ab lf (f (b + 11)) ((8 + q) / 2)) (((8 + q) / 2) / 2))), (0, .ref ha), (1, .int (nI b)), (2, .int lf)]) hx hb d_Sg_top_48 rfl hl (by decide) rfl (fun ls hl => ?_)
                  refine lv_iload hx hb d_Sg_top_49 (lv_at hl 1 rfl) ?_
                  refine nz_eq (tgt := 65) hx hb d_Sg_top_51 (by decide) (by decide) (fun h_28 => ?_) (fun h_28 => ?_)
                  · exact absurd h_28 (by decide)
                  · refine lv_iload hx hb d_Sg_top_54 (lv_at hl 4 rfl) ?_
                    refine lv_iload hx hb d_Sg_top_56 (lv_at hl 2 rfl) ?_
                    refine lv_iload_n hx hb d_Sg_top_58 rfl (lv_at hl 0 rfl) ?_
                    refine pr_call (va_runS (As := [.int (ab (f (b + 12)) (ab lf (f (b + 11)) ((8 + q) / 2)) (((8 + q) / 2) / 2)), .int (f (b + 13)), .int (nI ((((8 + q) / 2) / 2) / 2))]) (rest := []) ⟨hx, hb, hml, hown, hts⟩ (c_Sg_above l dC dI cI (a := ab (f (b + 12)) (ab lf (f (b + 11)) ((8 + q) / 2)) (((8 + q) / 2) / 2)) (b := f (b + 13)) (k := (((8 + q) / 2) / 2) / 2) ) ⟨callB_of 3 hts (gd kw_75) rfl rfl rfl (hts _ kw_37) (hts _ kw_228) (by decide +kernel) ⟨Nat.le_of_ble_eq_true rfl, Nat.le_of_ble_eq_true rfl⟩, (hts _ kw_74)⟩ ⟨fun a U g mk q => by obtain ⟨q0, qP, qK⟩ := q; exact ⟨q0, qP, qK.call⟩, fun U hU hW => ⟨rfl, by rw [hU]; exact hP.sub [] rfl, hKN.warm hW⟩⟩ rfl rfl hl.1 rfl (lv_room (Nat.le_of_ble_eq_true rfl)) d_Sg_top_59 ⟨Nat.zero_le _, Nat.zero_le _⟩) ?_
                    refine lv_goto (tgt := 73) hx hb d_Sg_top_62 (by decide) ?_
                    refine lv_istore (lv' := [(4, .int (ab (ab (f (b + 12)) (ab lf (f (b + 11)) ((8 + q) / 2)) (((8 + q) / 2) / 2)) (f (b + 13)) ((((8 + q) / 2) / 2) / 2))), (3, .int (nI ((((8 + q) / 2) / 2) / 2))), (7, .int (nI 1)), (6, .int (f (b + 13))), (5, .int (nI 2)), (0, .ref ha), (1, .int (nI b)), (2, .int lf)]) hx hb d_Sg_top_73 hl (by decide) rfl (fun ls hl => ?_)
                    refine lv_iinc (k := 4) (v := (nI 3)) (lv' := [(5, .int (nI 3)), (4, .int (ab (ab (f (b + 12)) (ab lf (f (b + 11)) ((8 + q) / 2)) (((8 + q) / 2) / 2)) (f (b + 13)) ((((8 + q) / 2) / 2) / 2))), (3, .int (nI ((((8 + q) / 2) / 2) / 2))), (7, .int (nI 1)), (6, .int (f (b + 13))), (0, .ref ha), (1, .int (nI b)), (2, .int lf)]) hx hb d_Sg_top_75 hl rfl (by decide) (by decide) rfl (fun ls hl => ?_)
                    refine lv_goto (tgt := 15) hx hb d_Sg_top_78 (by decide) ?_
                    refine lv_iload hx hb d_Sg_top_15 (lv_at hl 0 rfl) ?_
                    refine lv_iconst (v := (nI 3)) hx hb d_Sg_top_17 (by decide) ?_
                    refine nb_ge (tgt := 81) hx hb d_Sg_top_18 (by decide) (by decide) (by decide) (fun h_29 => ?_) (fun h_29 => ?_)
                    · refine lv_iload hx hb d_Sg_top_81 (lv_at hl 1 rfl) ?_
                      exact W.iret (v := (ab (ab (f (b + 12)) (ab lf (f (b + 11)) ((8 + q) / 2)) (((8 + q) / 2) / 2)) (f (b + 13)) ((((8 + q) / 2) / 2) / 2))) hx hb hr (fun t ht hW => ⟨_, rfl, (by first | rfl | (simp only [sgTop, up1, if_pos h_2, if_neg h_22, if_pos h_25]; done) | (simp only [sgTop, up1, if_pos h_2, if_neg h_22, if_pos h_25]; rfl) | (simp [sgTop, up1, h_2, h_22, h_25]; done)), ht⟩) (fun q h => by cases h) d_Sg_top_83
                    · exact absurd h_29 (by decide)
            · exact absurd h_23 (by decide)
          · refine lv_iconst (v := (nI 1)) hx hb d_Sg_top_38 (by decide) ?_
            refine lv_goto (tgt := 43) hx hb d_Sg_top_39 (by decide) ?_
            refine lv_istore (lv' := [(7, .int (nI 1)), (6, .int (f (b + 12))), (5, .int (nI 1)), (4, .int (ab lf (f (b + 11)) ((8 + q) / 2))), (3, .int (nI ((8 + q) / 2))), (0, .ref ha), (1, .int (nI b)), (2, .int lf)]) hx hb d_Sg_top_43 hl (by decide) rfl (fun ls hl => ?_)
            refine lv_iload_n hx hb d_Sg_top_45 rfl (lv_at hl 4 rfl) ?_
            refine lv_iconst (v := (nI 2)) hx hb d_Sg_top_46 (by decide) ?_
            refine lv_idiv hx hb d_Sg_top_47 (by decide) ?_
            refine tp (pk_div (by omega) (by decide) (by decide)) ?_
            refine lv_istore_n (lv' := [(3, .int (nI (((8 + q) / 2) / 2))), (7, .int (nI 1)), (6, .int (f (b + 12))), (5, .int (nI 1)), (4, .int (ab lf (f (b + 11)) ((8 + q) / 2))), (0, .ref ha), (1, .int (nI b)), (2, .int lf)]) hx hb d_Sg_top_48 rfl hl (by decide) rfl (fun ls hl => ?_)
            refine lv_iload hx hb d_Sg_top_49 (lv_at hl 1 rfl) ?_
            refine nz_eq (tgt := 65) hx hb d_Sg_top_51 (by decide) (by decide) (fun h_30 => ?_) (fun h_30 => ?_)
            · exact absurd h_30 (by decide)
            · refine lv_iload hx hb d_Sg_top_54 (lv_at hl 4 rfl) ?_
              refine lv_iload hx hb d_Sg_top_56 (lv_at hl 2 rfl) ?_
              refine lv_iload_n hx hb d_Sg_top_58 rfl (lv_at hl 0 rfl) ?_
              refine pr_call (va_runS (As := [.int (ab lf (f (b + 11)) ((8 + q) / 2)), .int (f (b + 12)), .int (nI (((8 + q) / 2) / 2))]) (rest := []) ⟨hx, hb, hml, hown, hts⟩ (c_Sg_above l dC dI cI (a := ab lf (f (b + 11)) ((8 + q) / 2)) (b := f (b + 12)) (k := ((8 + q) / 2) / 2) ) ⟨callB_of 3 hts (gd kw_75) rfl rfl rfl (hts _ kw_37) (hts _ kw_228) (by decide +kernel) ⟨Nat.le_of_ble_eq_true rfl, Nat.le_of_ble_eq_true rfl⟩, (hts _ kw_74)⟩ ⟨fun a U g mk q => by obtain ⟨q0, qP, qK⟩ := q; exact ⟨q0, qP, qK.call⟩, fun U hU hW => ⟨rfl, by rw [hU]; exact hP.sub [] rfl, hKN.warm hW⟩⟩ rfl rfl hl.1 rfl (lv_room (Nat.le_of_ble_eq_true rfl)) d_Sg_top_59 ⟨Nat.zero_le _, Nat.zero_le _⟩) ?_
              refine lv_goto (tgt := 73) hx hb d_Sg_top_62 (by decide) ?_
              refine lv_istore (lv' := [(4, .int (ab (ab lf (f (b + 11)) ((8 + q) / 2)) (f (b + 12)) (((8 + q) / 2) / 2))), (3, .int (nI (((8 + q) / 2) / 2))), (7, .int (nI 1)), (6, .int (f (b + 12))), (5, .int (nI 1)), (0, .ref ha), (1, .int (nI b)), (2, .int lf)]) hx hb d_Sg_top_73 hl (by decide) rfl (fun ls hl => ?_)
              refine lv_iinc (k := 4) (v := (nI 2)) (lv' := [(5, .int (nI 2)), (4, .int (ab (ab lf (f (b + 11)) ((8 + q) / 2)) (f (b + 12)) (((8 + q) / 2) / 2))), (3, .int (nI (((8 + q) / 2) / 2))), (7, .int (nI 1)), (6, .int (f (b + 12))), (0, .ref ha), (1, .int (nI b)), (2, .int lf)]) hx hb d_Sg_top_75 hl rfl (by decide) (by decide) rfl (fun ls hl => ?_)
              refine lv_goto (tgt := 15) hx hb d_Sg_top_78 (by decide) ?_
              refine lv_iload hx hb d_Sg_top_15 (lv_at hl 0 rfl) ?_
              refine lv_iconst (v := (nI 3)) hx hb d_Sg_top_17 (by decide) ?_
              refine nb_ge (tgt := 81) hx hb d_Sg_top_18 (by decide) (by decide) (by decide) (fun h_31 => ?_) (fun h_31 => ?_)
              · exact absurd h_31 (by decide)
              · refine lv_aload_n hx hb d_Sg_top_21 rfl (lv_at hl 5 rfl) ?_
                refine lv_iload_n hx hb d_Sg_top_22 rfl (lv_at hl 6 rfl) ?_
                refine lv_bipush (v := (nI 11)) hx hb d_Sg_top_23 (by decide) ?_
                refine lv_iadd hx hb d_Sg_top_25 ?_
                refine tp (nI_add _ _) ?_
                refine lv_iload hx hb d_Sg_top_26 (lv_at hl 0 rfl) ?_
                refine lv_iadd hx hb d_Sg_top_28 ?_
                refine tp (y := (nI (b + 13))) (nI_add _ _) ?_
                refine ar_ld (k := b + 13) hx hb hK hP 0 0 rfl rfl (by omega) (by first | decide | omega) d_Sg_top_29 ?_
                refine lv_istore (lv' := [(6, .int (f (b + 13))), (5, .int (nI 2)), (4, .int (ab (ab lf (f (b + 11)) ((8 + q) / 2)) (f (b + 12)) (((8 + q) / 2) / 2))), (3, .int (nI (((8 + q) / 2) / 2))), (7, .int (nI 1)), (0, .ref ha), (1, .int (nI b)), (2, .int lf)]) hx hb d_Sg_top_30 hl (by decide) rfl (fun ls hl => ?_)
                refine lv_iload_n hx hb d_Sg_top_32 rfl (lv_at hl 3 rfl) ?_
                refine lv_iconst (v := (nI 2)) hx hb d_Sg_top_33 (by decide) ?_
                refine lv_irem hx hb d_Sg_top_34 (by decide) ?_
                refine tp (pk_rem (by omega) (by decide) (by decide)) ?_
                refine nz_ne (tgt := 42) hx hb d_Sg_top_35 (by decide) (by omega) (fun h_32 => ?_) (fun h_32 => ?_)
                · refine lv_iconst (v := (nI 0)) hx hb d_Sg_top_42 (by decide) ?_
                  refine lv_istore (lv' := [(7, .int (nI 0)), (6, .int (f (b + 13))), (5, .int (nI 2)), (4, .int (ab (ab lf (f (b + 11)) ((8 + q) / 2)) (f (b + 12)) (((8 + q) / 2) / 2))), (3, .int (nI (((8 + q) / 2) / 2))), (0, .ref ha), (1, .int (nI b)), (2, .int lf)]) hx hb d_Sg_top_43 hl (by decide) rfl (fun ls hl => ?_)
                  refine lv_iload_n hx hb d_Sg_top_45 rfl (lv_at hl 4 rfl) ?_
                  refine lv_iconst (v := (nI 2)) hx hb d_Sg_top_46 (by decide) ?_
                  refine lv_idiv hx hb d_Sg_top_47 (by decide) ?_
                  refine tp (pk_div (by omega) (by decide) (by decide)) ?_
                  refine lv_istore_n (lv' := [(3, .int (nI ((((8 + q) / 2) / 2) / 2))), (7, .int (nI 0)), (6, .int (f (b + 13))), (5, .int (nI 2)), (4, .int (ab (ab lf (f (b + 11)) ((8 + q) / 2)) (f (b + 12)) (((8 + q) / 2) / 2))), (0, .ref ha), (1, .int (nI b)), (2, .int lf)]) hx hb d_Sg_top_48 rfl hl (by decide) rfl (fun ls hl => ?_)
                  refine lv_iload hx hb d_Sg_top_49 (lv_at hl 1 rfl) ?_
                  refine nz_eq (tgt := 65) hx hb d_Sg_top_51 (by decide) (by decide) (fun h_33 => ?_) (fun h_33 => ?_)
                  · refine lv_iload hx hb d_Sg_top_65 (lv_at hl 2 rfl) ?_
                    refine lv_iload hx hb d_Sg_top_67 (lv_at hl 4 rfl) ?_
                    refine lv_iload_n hx hb d_Sg_top_69 rfl (lv_at hl 0 rfl) ?_
                    refine pr_call (va_runS (As := [.int (f (b + 13)), .int (ab (ab lf (f (b + 11)) ((8 + q) / 2)) (f (b + 12)) (((8 + q) / 2) / 2)), .int (nI ((((8 + q) / 2) / 2) / 2))]) (rest := []) ⟨hx, hb, hml, hown, hts⟩ (c_Sg_above l dC dI cI (a := f (b + 13)) (b := ab (ab lf (f (b + 11)) ((8 + q) / 2)) (f (b + 12)) (((8 + q) / 2) / 2)) (k := (((8 + q) / 2) / 2) / 2) ) ⟨callB_of 3 hts (gd kw_75) rfl rfl rfl (hts _ kw_37) (hts _ kw_228) (by decide +kernel) ⟨Nat.le_of_ble_eq_true rfl, Nat.le_of_ble_eq_true rfl⟩, (hts _ kw_74)⟩ ⟨fun a U g mk q => by obtain ⟨q0, qP, qK⟩ := q; exact ⟨q0, qP, qK.call⟩, fun U hU hW => ⟨rfl, by rw [hU]; exact hP.sub [] rfl, hKN.warm hW⟩⟩ rfl rfl hl.1 rfl (lv_room (Nat.le_of_ble_eq_true rfl)) d_Sg_top_70 ⟨Nat.zero_le _, Nat.zero_le _⟩) ?_
                    refine lv_istore (lv' := [(4, .int (ab (f (b + 13)) (ab (ab lf (f (b + 11)) ((8 + q) / 2)) (f (b + 12)) (((8 + q) / 2) / 2)) ((((8 + q) / 2) / 2) / 2))), (3, .int (nI ((((8 + q) / 2) / 2) / 2))), (7, .int (nI 0)), (6, .int (f (b + 13))), (5, .int (nI 2)), (0, .ref ha), (1, .int (nI b)), (2, .int lf)]) hx hb d_Sg_top_73 hl (by decide) rfl (fun ls hl => ?_)
                    refine lv_iinc (k := 4) (v := (nI 3)) (lv' := [(5, .int (nI 3)), (4, .int (ab (f (b + 13)) (ab (ab lf (f (b + 11)) ((8 + q) / 2)) (f (b + 12)) (((8 + q) / 2) / 2)) ((((8 + q) / 2) / 2) / 2))), (3, .int (nI ((((8 + q) / 2) / 2) / 2))), (7, .int (nI 0)), (6, .int (f (b + 13))), (0, .ref ha), (1, .int (nI b)), (2, .int lf)]) hx hb d_Sg_top_75 hl rfl (by decide) (by decide) rfl (fun ls hl => ?_)
                    refine lv_goto (tgt := 15) hx hb d_Sg_top_78 (by decide) ?_
                    refine lv_iload hx hb d_Sg_top_15 (lv_at hl 0 rfl) ?_
                    refine lv_iconst (v := (nI 3)) hx hb d_Sg_top_17 (by decide) ?_
                    refine nb_ge (tgt := 81) hx hb d_Sg_top_18 (by decide) (by decide) (by decide) (fun h_34 => ?_) (fun h_34 => ?_)
                    · refine lv_iload hx hb d_Sg_top_81 (lv_at hl 1 rfl) ?_
                      exact W.iret (v := (ab (f (b + 13)) (ab (ab lf (f (b + 11)) ((8 + q) / 2)) (f (b + 12)) (((8 + q) / 2) / 2)) ((((8 + q) / 2) / 2) / 2))) hx hb hr (fun t ht hW => ⟨_, rfl, (by first | rfl | (simp only [sgTop, up1, if_pos h_2, if_pos h_22, if_neg h_32]; done) | (simp only [sgTop, up1, if_pos h_2, if_pos h_22, if_neg h_32]; rfl) | (simp [sgTop, up1, h_2, h_22, h_32]; done)), ht⟩) (fun q h => by cases h) d_Sg_top_83
                    · exact absurd h_34 (by decide)
                  · exact absurd h_33 (by decide)
                · refine lv_iconst (v := (nI 1)) hx hb d_Sg_top_38 (by decide) ?_
                  refine lv_goto (tgt := 43) hx hb d_Sg_top_39 (by decide) ?_
                  refine lv_istore (lv' := [(7, .int (nI 1)), (6, .int (f (b + 13))), (5, .int (nI 2)), (4, .int (ab (ab lf (f (b + 11)) ((8 + q) / 2)) (f (b + 12)) (((8 + q) / 2) / 2))), (3, .int (nI (((8 + q) / 2) / 2))), (0, .ref ha), (1, .int (nI b)), (2, .int lf)]) hx hb d_Sg_top_43 hl (by decide) rfl (fun ls hl => ?_)
                  refine lv_iload_n hx hb d_Sg_top_45 rfl (lv_at hl 4 rfl) ?_
                  refine lv_iconst (v := (nI 2)) hx hb d_Sg_top_46 (by decide) ?_
                  refine lv_idiv hx hb d_Sg_top_47 (by decide) ?_
                  refine tp (pk_div (by omega) (by decide) (by decide)) ?_
                  refine lv_istore_n (lv' := [(3, .int (nI ((((8 + q) / 2) / 2) / 2))), (7, .int (nI 1)), (6, .int (f (b + 13))), (5, .int (nI 2)), (4, .int (ab (ab lf (f (b + 11)) ((8 + q) / 2)) (f (b + 12)) (((8 + q) / 2) / 2))), (0, .ref ha), (1, .int (nI b)), (2, .int lf)]) hx hb d_Sg_top_48 rfl hl (by decide) rfl (fun ls hl => ?_)
                  refine lv_iload hx hb d_Sg_top_49 (lv_at hl 1 rfl) ?_
                  refine nz_eq (tgt := 65) hx hb d_Sg_top_51 (by decide) (by decide) (fun h_35 => ?_) (fun h_35 => ?_)
                  · exact absurd h_35 (by decide)
                  · refine lv_iload hx hb d_Sg_top_54 (lv_at hl 4 rfl) ?_
                    refine lv_iload hx hb d_Sg_top_56 (lv_at hl 2 rfl) ?_
                    refine lv_iload_n hx hb d_Sg_top_58 rfl (lv_at hl 0 rfl) ?_
                    refine pr_call (va_runS (As := [.int (ab (ab lf (f (b + 11)) ((8 + q) / 2)) (f (b + 12)) (((8 + q) / 2) / 2)), .int (f (b + 13)), .int (nI ((((8 + q) / 2) / 2) / 2))]) (rest := []) ⟨hx, hb, hml, hown, hts⟩ (c_Sg_above l dC dI cI (a := ab (ab lf (f (b + 11)) ((8 + q) / 2)) (f (b + 12)) (((8 + q) / 2) / 2)) (b := f (b + 13)) (k := (((8 + q) / 2) / 2) / 2) ) ⟨callB_of 3 hts (gd kw_75) rfl rfl rfl (hts _ kw_37) (hts _ kw_228) (by decide +kernel) ⟨Nat.le_of_ble_eq_true rfl, Nat.le_of_ble_eq_true rfl⟩, (hts _ kw_74)⟩ ⟨fun a U g mk q => by obtain ⟨q0, qP, qK⟩ := q; exact ⟨q0, qP, qK.call⟩, fun U hU hW => ⟨rfl, by rw [hU]; exact hP.sub [] rfl, hKN.warm hW⟩⟩ rfl rfl hl.1 rfl (lv_room (Nat.le_of_ble_eq_true rfl)) d_Sg_top_59 ⟨Nat.zero_le _, Nat.zero_le _⟩) ?_
                    refine lv_goto (tgt := 73) hx hb d_Sg_top_62 (by decide) ?_
                    refine lv_istore (lv' := [(4, .int (ab (ab (ab lf (f (b + 11)) ((8 + q) / 2)) (f (b + 12)) (((8 + q) / 2) / 2)) (f (b + 13)) ((((8 + q) / 2) / 2) / 2))), (3, .int (nI ((((8 + q) / 2) / 2) / 2))), (7, .int (nI 1)), (6, .int (f (b + 13))), (5, .int (nI 2)), (0, .ref ha), (1, .int (nI b)), (2, .int lf)]) hx hb d_Sg_top_73 hl (by decide) rfl (fun ls hl => ?_)
                    refine lv_iinc (k := 4) (v := (nI 3)) (lv' := [(5, .int (nI 3)), (4, .int (ab (ab (ab lf (f (b + 11)) ((8 + q) / 2)) (f (b + 12)) (((8 + q) / 2) / 2)) (f (b + 13)) ((((8 + q) / 2) / 2) / 2))), (3, .int (nI ((((8 + q) / 2) / 2) / 2))), (7, .int (nI 1)), (6, .int (f (b + 13))), (0, .ref ha), (1, .int (nI b)), (2, .int lf)]) hx hb d_Sg_top_75 hl rfl (by decide) (by decide) rfl (fun ls hl => ?_)
                    refine lv_goto (tgt := 15) hx hb d_Sg_top_78 (by decide) ?_
                    refine lv_iload hx hb d_Sg_top_15 (lv_at hl 0 rfl) ?_
                    refine lv_iconst (v := (nI 3)) hx hb d_Sg_top_17 (by decide) ?_
                    refine nb_ge (tgt := 81) hx hb d_Sg_top_18 (by decide) (by decide) (by decide) (fun h_36 => ?_) (fun h_36 => ?_)
                    · refine lv_iload hx hb d_Sg_top_81 (lv_at hl 1 rfl) ?_
                      exact W.iret (v := (ab (ab (ab lf (f (b + 11)) ((8 + q) / 2)) (f (b + 12)) (((8 + q) / 2) / 2)) (f (b + 13)) ((((8 + q) / 2) / 2) / 2))) hx hb hr (fun t ht hW => ⟨_, rfl, (by first | rfl | (simp only [sgTop, up1, if_pos h_2, if_pos h_22, if_pos h_32]; done) | (simp only [sgTop, up1, if_pos h_2, if_pos h_22, if_pos h_32]; rfl) | (simp [sgTop, up1, h_2, h_22, h_32]; done)), ht⟩) (fun q h => by cases h) d_Sg_top_83
                    · exact absurd h_36 (by decide)
set_option maxHeartbeats 4000000 in
set_option maxRecDepth 100000 in
theorem c_Sg_isSigned (l : Launch) (dC : Nat → ClassId) (dI : Nat → Nat → Nat) (cI : ClassId) (ha : Nat) (b : Nat) (rt : Int32) (N : Nat) (f : Nat → Int32) (hN : N < 2 ^ 31) (hbN : b + 17 ≤ N) : Met l y_Sg_isSigned w_Sg_isSigned ({ frames := 3, cells := 0, slots := 0, locals := 72 }) (va_Pc [.ref ha, .int (nI b), .int rt] (fun U => va_P (dC, dI) classes [(ha, .inl (cI, N, .inl f))] U.heap ∧ KN dC dI cI U)) (qr (bI (sgOk (fun i => f (b + i)) rt))) 0 0 (fun _ => False) := by
  refine Met.ofW (cc := b_Sg_isSigned) (maxL := 4) (ret := (some .boolean)) (by decide) rfl ?_
  intro p e s m args below meth c s₁ B hml hv
  obtain ⟨rfl, hP, hKN⟩ := hv
  have hK := hKN.1
  have hx := B.exec
  have hb := B.bytes
  have hr := B.returns
  have hts := fun (w : Cond) (h : w ∈ gt) => atoms_spec (ws := w_Sg_isSigned) B.pre w (List.mem_cons_of_mem _ h)
  have hown : s.vm.findClass R_Sg = some m.cls := findClass_of_methodNamed B.named
  have hlocks := B.notSynchronized
  have hl := lv_entry ([.ref ha, .int (nI b), .int rt]) (n := 4) (Nat.le_of_ble_eq_true rfl)
  rw [lg_entry_eq]
  generalize (lg_sl ([.ref ha, .int (nI b), .int rt]) ++ List.replicate (4 - (lg_sl ([.ref ha, .int (nI b), .int rt])).length) Slot.unset).toArray = ls at hl ⊢
  have hl : lv_has ls 4 [(0, .ref ha), (1, .int (nI b)), (2, .int rt)] := hl
  refine lv_aload_n hx hb d_Sg_isSigned_0 rfl (lv_at hl 0 rfl) ?_
  refine lv_iload_n hx hb d_Sg_isSigned_1 rfl (lv_at hl 1 rfl) ?_
  refine lv_iconst (v := (nI 4)) hx hb d_Sg_isSigned_2 (by decide) ?_
  refine lv_iadd hx hb d_Sg_isSigned_3 ?_
  refine tp (nI_add _ _) ?_
  refine ar_ld (k := b + 4) hx hb hK hP 0 0 rfl rfl (by omega) (by first | decide | omega) d_Sg_isSigned_4 ?_
  refine lv_istore_n (lv' := [(3, .int (f (b + 4))), (0, .ref ha), (1, .int (nI b)), (2, .int rt)]) hx hb d_Sg_isSigned_5 rfl hl (by decide) rfl (fun ls hl => ?_)
  refine lv_iload_n hx hb d_Sg_isSigned_6 rfl (lv_at hl 0 rfl) ?_
  refine lv_if_lt (tgt := 35) hx hb d_Sg_isSigned_7 (by decide) (fun h_1 => ?_) (fun h_1 => ?_)
  · refine lv_iconst (v := (nI 0)) hx hb d_Sg_isSigned_35 (by decide) ?_
    exact W.zret (v := (bI false)) hx hb hr (bI_narrow _) (fun t ht hW => ⟨_, rfl, (by simp [sgOk, h_1]), ht⟩) (fun q h => by cases h) d_Sg_isSigned_36
  · refine lv_iload_n hx hb d_Sg_isSigned_10 rfl (lv_at hl 0 rfl) ?_
    refine lv_bipush (v := (nI 8)) hx hb d_Sg_isSigned_11 (by decide) ?_
    refine lv_icmp_ge (tgt := 35) hx hb d_Sg_isSigned_13 (by decide) (fun h_2 => ?_) (fun h_2 => ?_)
    · refine lv_iconst (v := (nI 0)) hx hb d_Sg_isSigned_35 (by decide) ?_
      exact W.zret (v := (bI false)) hx hb hr (bI_narrow _) (fun t ht hW => ⟨_, rfl, (by simp [sgOk, h_1, h_2]), ht⟩) (fun q h => by cases h) d_Sg_isSigned_36
    · obtain ⟨q, hq8, hq⟩ := key_nat h_1 h_2
      refine lv_aload_n hx hb d_Sg_isSigned_16 rfl (lv_at hl 1 rfl) ?_
      refine lv_iload_n hx hb d_Sg_isSigned_17 rfl (lv_at hl 2 rfl) ?_
      refine lv_aload_n hx hb d_Sg_isSigned_18 rfl (lv_at hl 1 rfl) ?_
      refine lv_iload_n hx hb d_Sg_isSigned_19 rfl (lv_at hl 2 rfl) ?_
      refine lv_iload_n hx hb d_Sg_isSigned_20 rfl (lv_at hl 0 rfl) ?_
      refine tp hq ?_
      refine pr_call (va_runS (As := [.ref ha, .int (nI b), .int (nI q)]) (rest := [.int (nI b), .ref ha]) ⟨hx, hb, hml, hown, hts⟩ (c_Sg_leaf l dC dI cI (ha := ha) (b := b) (q := q) (N := N) (f := f) (hN := (by omega)) (hbN := (by omega))) ⟨callB_of 3 hts (gd kw_221) rfl rfl rfl (hts _ kw_37) (hts _ kw_219) (by decide +kernel) ⟨Nat.le_of_ble_eq_true rfl, Nat.le_of_ble_eq_true rfl⟩, (hts _ kw_220)⟩ ⟨fun a U g mk q => by obtain ⟨q0, qP, qK⟩ := q; exact ⟨q0, qP, qK.call⟩, fun U hU hW => ⟨rfl, by rw [hU]; exact hP.sub [0] rfl, hKN.warm hW⟩⟩ rfl rfl hl.1 rfl (lv_room (Nat.le_of_ble_eq_true rfl)) d_Sg_isSigned_21 ⟨Nat.zero_le _, Nat.zero_le _⟩) ?_
      refine pr_call (va_runS (As := [.ref ha, .int (nI b), .int (sgLeaf (fun i => f (b + i)) q)]) (rest := []) ⟨hx, hb, hml, hown, hts⟩ (c_Sg_top l dC dI cI (ha := ha) (b := b) (lf := sgLeaf (fun i => f (b + i)) q) (N := N) (f := f) (q := q) (hN := (by omega)) (hbN := (by omega)) (hq8 := hq8) (hq := hq)) ⟨callB_of 3 hts (gd kw_227) rfl rfl rfl (hts _ kw_37) (hts _ kw_225) (by decide +kernel) ⟨Nat.le_of_ble_eq_true rfl, Nat.le_of_ble_eq_true rfl⟩, (hts _ kw_226)⟩ ⟨fun a U g mk q => by obtain ⟨q0, qP, qK⟩ := q; exact ⟨q0, qP, qK.call⟩, fun U hU hW => ⟨rfl, by rw [hU]; exact hP.sub [0] rfl, hKN.warm hW⟩⟩ rfl rfl hl.1 rfl (lv_room (Nat.le_of_ble_eq_true rfl)) d_Sg_isSigned_24 ⟨Nat.zero_le _, Nat.zero_le _⟩) ?_
      refine lv_iload_n hx hb d_Sg_isSigned_27 rfl (lv_at hl 3 rfl) ?_
      refine lv_icmp_ne (tgt := 35) hx hb d_Sg_isSigned_28 (by decide) (fun h_3 => ?_) (fun h_3 => ?_)
      · refine lv_iconst (v := (nI 0)) hx hb d_Sg_isSigned_35 (by decide) ?_
        exact W.zret (v := (bI false)) hx hb hr (bI_narrow _) (fun t ht hW => ⟨_, rfl, (by rw [sgOk_q (r := (fun i => f (b + i))) hq hq8]; simp [h_3]), ht⟩) (fun q h => by cases h) d_Sg_isSigned_36
      · refine lv_iconst (v := (nI 1)) hx hb d_Sg_isSigned_31 (by decide) ?_
        refine lv_goto (tgt := 36) hx hb d_Sg_isSigned_32 (by decide) ?_
        exact W.zret (v := (bI true)) hx hb hr (bI_narrow _) (fun t ht hW => ⟨_, rfl, (by rw [sgOk_q (r := (fun i => f (b + i))) hq hq8]; simp [h_3]), ht⟩) (fun q h => by cases h) d_Sg_isSigned_36
set_option maxHeartbeats 4000000 in
set_option maxRecDepth 100000 in
theorem c_PW_isStageWhole (l : Launch) (dC : Nat → ClassId) (dI : Nat → Nat → Nat) (cI : ClassId) (ha : Nat) (b : Nat) (k : Nat) (N : Nat) (f : Nat → Int32) (hN : N < 2 ^ 31) (hbN : b + 17 ≤ N) (hk : k < 3) : Met l y_PW_isStageWhole w_PW_isStageWhole ({ frames := 2, cells := 0, slots := 0, locals := 43 }) (va_Pc [.ref ha, .int (nI b), .int (nI k)] (fun U => va_P (dC, dI) classes [(ha, .inl (cI, N, .inl f))] U.heap ∧ KN dC dI cI U)) (qr (bI (stOk (fun i => f (b + i)) k))) 0 0 (fun _ => False) := by
  refine Met.ofW (cc := b_PW_isStageWhole) (maxL := 3) (ret := (some .boolean)) (by decide) rfl ?_
  intro p e s m args below meth c s₁ B hml hv
  obtain ⟨rfl, hP, hKN⟩ := hv
  have hK := hKN.1
  have hx := B.exec
  have hb := B.bytes
  have hr := B.returns
  have hts := fun (w : Cond) (h : w ∈ gt) => atoms_spec (ws := w_PW_isStageWhole) B.pre w (List.mem_cons_of_mem _ h)
  have hown : s.vm.findClass R_PW = some m.cls := findClass_of_methodNamed B.named
  have hlocks := B.notSynchronized
  have hl := lv_entry ([.ref ha, .int (nI b), .int (nI k)]) (n := 3) (Nat.le_of_ble_eq_true rfl)
  rw [lg_entry_eq]
  generalize (lg_sl ([.ref ha, .int (nI b), .int (nI k)]) ++ List.replicate (3 - (lg_sl ([.ref ha, .int (nI b), .int (nI k)])).length) Slot.unset).toArray = ls at hl ⊢
  have hl : lv_has ls 3 [(0, .ref ha), (1, .int (nI b)), (2, .int (nI k))] := hl
  refine lv_aload_n hx hb d_PW_isStageWhole_0 rfl (lv_at hl 0 rfl) ?_
  refine lv_iload_n hx hb d_PW_isStageWhole_1 rfl (lv_at hl 1 rfl) ?_
  refine lv_iconst (v := (nI 1)) hx hb d_PW_isStageWhole_2 (by decide) ?_
  refine lv_iadd hx hb d_PW_isStageWhole_3 ?_
  refine tp (nI_add _ _) ?_
  refine lv_iload_n hx hb d_PW_isStageWhole_4 rfl (lv_at hl 2 rfl) ?_
  refine lv_iadd hx hb d_PW_isStageWhole_5 ?_
  refine tp (y := (nI (b + (1 + k)))) (by rw [nI_add, Nat.add_assoc]) ?_
  refine ar_ld (k := b + (1 + k)) hx hb hK hP 0 0 rfl rfl (by omega) (by first | decide | omega) d_PW_isStageWhole_6 ?_
  refine lv_aload_n hx hb d_PW_isStageWhole_7 rfl (lv_at hl 0 rfl) ?_
  refine lv_iload_n hx hb d_PW_isStageWhole_8 rfl (lv_at hl 1 rfl) ?_
  refine lv_bipush (v := (nI 14)) hx hb d_PW_isStageWhole_9 (by decide) ?_
  refine lv_iadd hx hb d_PW_isStageWhole_11 ?_
  refine tp (nI_add _ _) ?_
  refine lv_iload_n hx hb d_PW_isStageWhole_12 rfl (lv_at hl 2 rfl) ?_
  refine lv_iadd hx hb d_PW_isStageWhole_13 ?_
  refine tp (y := (nI (b + (14 + k)))) (by rw [nI_add, Nat.add_assoc]) ?_
  refine ar_ld (k := b + (14 + k)) hx hb hK hP 0 0 rfl rfl (by omega) (by first | decide | omega) d_PW_isStageWhole_14 ?_
  refine lv_iload_n hx hb d_PW_isStageWhole_15 rfl (lv_at hl 2 rfl) ?_
  refine pr_call (va_runS (As := [.int (f (b + (14 + k))), .int (nI k)]) (rest := [.int (f (b + (1 + k)))]) ⟨hx, hb, hml, hown, hts⟩ (c_PW_digest l dC dI cI (a := f (b + (14 + k))) (b := (nI k)) ) ⟨callB_of 2 hts (gd kw_96) rfl rfl rfl (hts _ kw_38) (hts _ kw_94) (by decide +kernel) ⟨Nat.le_of_ble_eq_true rfl, Nat.le_of_ble_eq_true rfl⟩, (hts _ kw_95)⟩ ⟨fun a U g mk q => by obtain ⟨q0, qP, qK⟩ := q; exact ⟨q0, qP, qK.call⟩, fun U hU hW => ⟨rfl, by rw [hU]; exact hP.sub [] rfl, hKN.warm hW⟩⟩ rfl rfl hl.1 rfl (lv_room (Nat.le_of_ble_eq_true rfl)) d_PW_isStageWhole_16 ⟨Nat.zero_le _, Nat.zero_le _⟩) ?_
  refine lv_icmp_ne (tgt := 26) hx hb d_PW_isStageWhole_19 (by decide) (fun h_1 => ?_) (fun h_1 => ?_)
  · refine lv_iconst (v := (nI 0)) hx hb d_PW_isStageWhole_26 (by decide) ?_
    exact W.zret (v := (bI false)) hx hb hr (bI_narrow _) (fun t ht hW => ⟨_, rfl, (by simp [stOk, h_1]), ht⟩) (fun q h => by cases h) d_PW_isStageWhole_27
  · refine lv_iconst (v := (nI 1)) hx hb d_PW_isStageWhole_22 (by decide) ?_
    refine lv_goto (tgt := 27) hx hb d_PW_isStageWhole_23 (by decide) ?_
    exact W.zret (v := (bI true)) hx hb hr (bI_narrow _) (fun t ht hW => ⟨_, rfl, (by simp [stOk, h_1]), ht⟩) (fun q h => by cases h) d_PW_isStageWhole_27
set_option maxHeartbeats 4000000 in
set_option maxRecDepth 100000 in
theorem c_PW_whatIsWrong (l : Launch) (dC : Nat → ClassId) (dI : Nat → Nat → Nat) (cI : ClassId) (ha : Nat) (b : Nat) (rt : Int32) (N : Nat) (f : Nat → Int32) (hN : N < 2 ^ 31) (hbN : b + 17 ≤ N) : Met l y_PW_whatIsWrong w_PW_whatIsWrong ({ frames := 4, cells := 0, slots := 0, locals := 95 }) (va_Pc [.ref ha, .int (nI b), .int rt] (fun U => va_P (dC, dI) classes [(ha, .inl (cI, N, .inl f))] U.heap ∧ KN dC dI cI U)) (qr (wrong (fun i => f (b + i)) rt)) 0 0 (fun _ => False) := by
  refine Met.ofW (cc := b_PW_whatIsWrong) (maxL := 4) (ret := (some .int)) (by decide) rfl ?_
  intro p e s m args below meth c s₁ B hml hv
  obtain ⟨rfl, hP, hKN⟩ := hv
  have hK := hKN.1
  have hx := B.exec
  have hb := B.bytes
  have hr := B.returns
  have hts := fun (w : Cond) (h : w ∈ gt) => atoms_spec (ws := w_PW_whatIsWrong) B.pre w (List.mem_cons_of_mem _ h)
  have hown : s.vm.findClass R_PW = some m.cls := findClass_of_methodNamed B.named
  have hlocks := B.notSynchronized
  have hl := lv_entry ([.ref ha, .int (nI b), .int rt]) (n := 4) (Nat.le_of_ble_eq_true rfl)
  rw [lg_entry_eq]
  generalize (lg_sl ([.ref ha, .int (nI b), .int rt]) ++ List.replicate (4 - (lg_sl ([.ref ha, .int (nI b), .int rt])).length) Slot.unset).toArray = ls at hl ⊢
  have hl : lv_has ls 4 [(0, .ref ha), (1, .int (nI b)), (2, .int rt)] := hl
  refine lv_aload_n hx hb d_PW_whatIsWrong_0 rfl (lv_at hl 0 rfl) ?_
  refine lv_iload_n hx hb d_PW_whatIsWrong_1 rfl (lv_at hl 1 rfl) ?_
  refine ar_ld (k := b) hx hb hK hP 0 0 rfl rfl (by omega) (by first | decide | omega) d_PW_whatIsWrong_2 ?_
  refine pr_call (va_runS (As := [.int (f b)]) (rest := []) ⟨hx, hb, hml, hown, hts⟩ (c_PW_isVersion l dC dI cI (v := f b) ) ⟨callB_of 1 hts (gd kw_184) rfl rfl rfl (hts _ kw_38) (hts _ kw_215) (by decide +kernel) ⟨Nat.le_of_ble_eq_true rfl, Nat.le_of_ble_eq_true rfl⟩, (hts _ kw_183)⟩ ⟨fun a U g mk q => by obtain ⟨q0, qP, qK⟩ := q; exact ⟨q0, qP, qK.call⟩, fun U hU hW => ⟨rfl, by rw [hU]; exact hP.sub [] rfl, hKN.warm hW⟩⟩ rfl rfl hl.1 rfl (lv_room (Nat.le_of_ble_eq_true rfl)) d_PW_whatIsWrong_3 ⟨Nat.zero_le _, Nat.zero_le _⟩) ?_
  refine bz_ne (tgt := 11) hx hb d_PW_whatIsWrong_6 (by decide) (fun h_1 => ?_) (fun h_1 => ?_)
  · refine lv_aload_n hx hb d_PW_whatIsWrong_11 rfl (lv_at hl 0 rfl) ?_
    refine lv_iload_n hx hb d_PW_whatIsWrong_12 rfl (lv_at hl 1 rfl) ?_
    refine lv_iload_n hx hb d_PW_whatIsWrong_13 rfl (lv_at hl 2 rfl) ?_
    refine pr_call (va_runS (As := [.ref ha, .int (nI b), .int rt]) (rest := []) ⟨hx, hb, hml, hown, hts⟩ (c_Sg_isSigned l dC dI cI (ha := ha) (b := b) (rt := rt) (N := N) (f := f) (hN := (by omega)) (hbN := (by omega))) ⟨callB_of 3 hts (gd kw_218) rfl rfl rfl (hts _ kw_37) (hts _ kw_216) (by decide +kernel) ⟨Nat.le_of_ble_eq_true rfl, Nat.le_of_ble_eq_true rfl⟩, (hts _ kw_217)⟩ ⟨fun a U g mk q => by obtain ⟨q0, qP, qK⟩ := q; exact ⟨q0, qP, qK.call⟩, fun U hU hW => ⟨rfl, by rw [hU]; exact hP.sub [0] rfl, hKN.warm hW⟩⟩ rfl rfl hl.1 rfl (lv_room (Nat.le_of_ble_eq_true rfl)) d_PW_whatIsWrong_14 ⟨Nat.zero_le _, Nat.zero_le _⟩) ?_
    refine bz_ne (tgt := 22) hx hb d_PW_whatIsWrong_17 (by decide) (fun h_2 => ?_) (fun h_2 => ?_)
    · refine lv_iconst (v := (nI 0)) hx hb d_PW_whatIsWrong_22 (by decide) ?_
      refine lv_istore_n (lv' := [(3, .int (nI 0)), (0, .ref ha), (1, .int (nI b)), (2, .int rt)]) hx hb d_PW_whatIsWrong_23 rfl hl (by decide) rfl (fun ls hl => ?_)
      refine lv_iload_n hx hb d_PW_whatIsWrong_24 rfl (lv_at hl 0 rfl) ?_
      refine lv_iconst (v := (nI 3)) hx hb d_PW_whatIsWrong_25 (by decide) ?_
      refine nb_ge (tgt := 48) hx hb d_PW_whatIsWrong_26 (by decide) (by decide) (by decide) (fun h_3 => ?_) (fun h_3 => ?_)
      · exact absurd h_3 (by decide)
      · refine lv_aload_n hx hb d_PW_whatIsWrong_29 rfl (lv_at hl 1 rfl) ?_
        refine lv_iload_n hx hb d_PW_whatIsWrong_30 rfl (lv_at hl 2 rfl) ?_
        refine lv_iload_n hx hb d_PW_whatIsWrong_31 rfl (lv_at hl 0 rfl) ?_
        refine pr_call (va_runS (As := [.ref ha, .int (nI b), .int (nI 0)]) (rest := []) ⟨hx, hb, hml, hown, hts⟩ (c_PW_isStageWhole l dC dI cI (ha := ha) (b := b) (k := 0) (N := N) (f := f) (hN := (by omega)) (hbN := (by omega)) (hk := (by omega))) ⟨callB_of 3 hts (gd kw_231) rfl rfl rfl (hts _ kw_38) (hts _ kw_229) (by decide +kernel) ⟨Nat.le_of_ble_eq_true rfl, Nat.le_of_ble_eq_true rfl⟩, (hts _ kw_230)⟩ ⟨fun a U g mk q => by obtain ⟨q0, qP, qK⟩ := q; exact ⟨q0, qP, qK.call⟩, fun U hU hW => ⟨rfl, by rw [hU]; exact hP.sub [0] rfl, hKN.warm hW⟩⟩ rfl rfl hl.1 rfl (lv_room (Nat.le_of_ble_eq_true rfl)) d_PW_whatIsWrong_32 ⟨Nat.zero_le _, Nat.zero_le _⟩) ?_
        refine bz_ne (tgt := 42) hx hb d_PW_whatIsWrong_35 (by decide) (fun h_4 => ?_) (fun h_4 => ?_)
        · refine lv_iinc (k := 0) (v := (nI 1)) (lv' := [(3, .int (nI 1)), (0, .ref ha), (1, .int (nI b)), (2, .int rt)]) hx hb d_PW_whatIsWrong_42 hl rfl (by decide) (by decide) rfl (fun ls hl => ?_)
          refine lv_goto (tgt := 24) hx hb d_PW_whatIsWrong_45 (by decide) ?_
          refine lv_iload_n hx hb d_PW_whatIsWrong_24 rfl (lv_at hl 0 rfl) ?_
          refine lv_iconst (v := (nI 3)) hx hb d_PW_whatIsWrong_25 (by decide) ?_
          refine nb_ge (tgt := 48) hx hb d_PW_whatIsWrong_26 (by decide) (by decide) (by decide) (fun h_5 => ?_) (fun h_5 => ?_)
          · exact absurd h_5 (by decide)
          · refine lv_aload_n hx hb d_PW_whatIsWrong_29 rfl (lv_at hl 1 rfl) ?_
            refine lv_iload_n hx hb d_PW_whatIsWrong_30 rfl (lv_at hl 2 rfl) ?_
            refine lv_iload_n hx hb d_PW_whatIsWrong_31 rfl (lv_at hl 0 rfl) ?_
            refine pr_call (va_runS (As := [.ref ha, .int (nI b), .int (nI 1)]) (rest := []) ⟨hx, hb, hml, hown, hts⟩ (c_PW_isStageWhole l dC dI cI (ha := ha) (b := b) (k := 1) (N := N) (f := f) (hN := (by omega)) (hbN := (by omega)) (hk := (by omega))) ⟨callB_of 3 hts (gd kw_231) rfl rfl rfl (hts _ kw_38) (hts _ kw_229) (by decide +kernel) ⟨Nat.le_of_ble_eq_true rfl, Nat.le_of_ble_eq_true rfl⟩, (hts _ kw_230)⟩ ⟨fun a U g mk q => by obtain ⟨q0, qP, qK⟩ := q; exact ⟨q0, qP, qK.call⟩, fun U hU hW => ⟨rfl, by rw [hU]; exact hP.sub [0] rfl, hKN.warm hW⟩⟩ rfl rfl hl.1 rfl (lv_room (Nat.le_of_ble_eq_true rfl)) d_PW_whatIsWrong_32 ⟨Nat.zero_le _, Nat.zero_le _⟩) ?_
            refine bz_ne (tgt := 42) hx hb d_PW_whatIsWrong_35 (by decide) (fun h_6 => ?_) (fun h_6 => ?_)
            · refine lv_iinc (k := 0) (v := (nI 2)) (lv' := [(3, .int (nI 2)), (0, .ref ha), (1, .int (nI b)), (2, .int rt)]) hx hb d_PW_whatIsWrong_42 hl rfl (by decide) (by decide) rfl (fun ls hl => ?_)
              refine lv_goto (tgt := 24) hx hb d_PW_whatIsWrong_45 (by decide) ?_
              refine lv_iload_n hx hb d_PW_whatIsWrong_24 rfl (lv_at hl 0 rfl) ?_
              refine lv_iconst (v := (nI 3)) hx hb d_PW_whatIsWrong_25 (by decide) ?_
              refine nb_ge (tgt := 48) hx hb d_PW_whatIsWrong_26 (by decide) (by decide) (by decide) (fun h_7 => ?_) (fun h_7 => ?_)
              · exact absurd h_7 (by decide)
              · refine lv_aload_n hx hb d_PW_whatIsWrong_29 rfl (lv_at hl 1 rfl) ?_
                refine lv_iload_n hx hb d_PW_whatIsWrong_30 rfl (lv_at hl 2 rfl) ?_
                refine lv_iload_n hx hb d_PW_whatIsWrong_31 rfl (lv_at hl 0 rfl) ?_
                refine pr_call (va_runS (As := [.ref ha, .int (nI b), .int (nI 2)]) (rest := []) ⟨hx, hb, hml, hown, hts⟩ (c_PW_isStageWhole l dC dI cI (ha := ha) (b := b) (k := 2) (N := N) (f := f) (hN := (by omega)) (hbN := (by omega)) (hk := (by omega))) ⟨callB_of 3 hts (gd kw_231) rfl rfl rfl (hts _ kw_38) (hts _ kw_229) (by decide +kernel) ⟨Nat.le_of_ble_eq_true rfl, Nat.le_of_ble_eq_true rfl⟩, (hts _ kw_230)⟩ ⟨fun a U g mk q => by obtain ⟨q0, qP, qK⟩ := q; exact ⟨q0, qP, qK.call⟩, fun U hU hW => ⟨rfl, by rw [hU]; exact hP.sub [0] rfl, hKN.warm hW⟩⟩ rfl rfl hl.1 rfl (lv_room (Nat.le_of_ble_eq_true rfl)) d_PW_whatIsWrong_32 ⟨Nat.zero_le _, Nat.zero_le _⟩) ?_
                refine bz_ne (tgt := 42) hx hb d_PW_whatIsWrong_35 (by decide) (fun h_8 => ?_) (fun h_8 => ?_)
                · refine lv_iinc (k := 0) (v := (nI 3)) (lv' := [(3, .int (nI 3)), (0, .ref ha), (1, .int (nI b)), (2, .int rt)]) hx hb d_PW_whatIsWrong_42 hl rfl (by decide) (by decide) rfl (fun ls hl => ?_)
                  refine lv_goto (tgt := 24) hx hb d_PW_whatIsWrong_45 (by decide) ?_
                  refine lv_iload_n hx hb d_PW_whatIsWrong_24 rfl (lv_at hl 0 rfl) ?_
                  refine lv_iconst (v := (nI 3)) hx hb d_PW_whatIsWrong_25 (by decide) ?_
                  refine nb_ge (tgt := 48) hx hb d_PW_whatIsWrong_26 (by decide) (by decide) (by decide) (fun h_9 => ?_) (fun h_9 => ?_)
                  · refine lv_iconst (v := (nI 0)) hx hb d_PW_whatIsWrong_48 (by decide) ?_
                    exact W.iret (v := (nI 0)) hx hb hr (fun t ht hW => ⟨_, rfl, (by simp [wrong, h_1, h_2, h_4, h_6, h_8]), ht⟩) (fun q h => by cases h) d_PW_whatIsWrong_49
                  · exact absurd h_9 (by decide)
                · refine lv_iconst (v := (nI 3)) hx hb d_PW_whatIsWrong_38 (by decide) ?_
                  refine lv_iload_n hx hb d_PW_whatIsWrong_39 rfl (lv_at hl 0 rfl) ?_
                  refine lv_iadd hx hb d_PW_whatIsWrong_40 ?_
                  refine tp (y := (nI 5)) (by decide) ?_
                  exact W.iret (v := (nI 5)) hx hb hr (fun t ht hW => ⟨_, rfl, (by simp [wrong, h_1, h_2, h_4, h_6, h_8]), ht⟩) (fun q h => by cases h) d_PW_whatIsWrong_41
            · refine lv_iconst (v := (nI 3)) hx hb d_PW_whatIsWrong_38 (by decide) ?_
              refine lv_iload_n hx hb d_PW_whatIsWrong_39 rfl (lv_at hl 0 rfl) ?_
              refine lv_iadd hx hb d_PW_whatIsWrong_40 ?_
              refine tp (y := (nI 4)) (by decide) ?_
              exact W.iret (v := (nI 4)) hx hb hr (fun t ht hW => ⟨_, rfl, (by simp [wrong, h_1, h_2, h_4, h_6]), ht⟩) (fun q h => by cases h) d_PW_whatIsWrong_41
        · refine lv_iconst (v := (nI 3)) hx hb d_PW_whatIsWrong_38 (by decide) ?_
          refine lv_iload_n hx hb d_PW_whatIsWrong_39 rfl (lv_at hl 0 rfl) ?_
          refine lv_iadd hx hb d_PW_whatIsWrong_40 ?_
          refine tp (y := (nI 3)) (by decide) ?_
          exact W.iret (v := (nI 3)) hx hb hr (fun t ht hW => ⟨_, rfl, (by simp [wrong, h_1, h_2, h_4]), ht⟩) (fun q h => by cases h) d_PW_whatIsWrong_41
    · refine lv_iconst (v := (nI 2)) hx hb d_PW_whatIsWrong_20 (by decide) ?_
      exact W.iret (v := (nI 2)) hx hb hr (fun t ht hW => ⟨_, rfl, (by simp [wrong, h_1, h_2]), ht⟩) (fun q h => by cases h) d_PW_whatIsWrong_21
  · refine lv_iconst (v := (nI 1)) hx hb d_PW_whatIsWrong_9 (by decide) ?_
    exact W.iret (v := (nI 1)) hx hb hr (fun t ht hW => ⟨_, rfl, (by simp [wrong, h_1]), ht⟩) (fun q h => by cases h) d_PW_whatIsWrong_10
set_option maxHeartbeats 4000000 in
set_option maxRecDepth 100000 in
theorem c_PW_putStage (l : Launch) (dC : Nat → ClassId) (dI : Nat → Nat → Nat) (cI : ClassId) (ha : Nat) (b : Nat) (k : Nat) (im : Int32) (N : Nat) (f : Nat → Int32) (hN : N < 2 ^ 31) (hbN : b + 17 ≤ N) (hk : k < 3) (sz : Nat) : Met l y_PW_putStage w_PW_putStage ({ frames := 2, cells := 0, slots := 0, locals := 43 }) (va_Pc [.ref ha, .int (nI b), .int (nI k), .int im] (fun U => U.heap.size = sz ∧ va_P (dC, dI) classes [(ha, .inl (cI, N, .inl f))] U.heap ∧ KN dC dI cI U ∧ va_D (fun _ => True) [(ha, .inl (cI, N, .inl f))])) (va_Qv (fun u : (Nat → Int32) => stg f b k im = u) (fun (u : (Nat → Int32)) t => va_P (dC, dI) classes [(ha, .inl (cI, N, .inl u))] t.heap ∧ va_D (va_A [(ha, .inl (cI, N, .inl f))] sz) [(ha, .inl (cI, N, .inl u))]) (va_A [(ha, .inl (cI, N, .inl f))] sz)) 0 0 (va_A [(ha, .inl (cI, N, .inl f))] sz) := by
  refine Met.ofW (cc := b_PW_putStage) (maxL := 4) (ret := none) (by decide) rfl ?_
  intro p e s m args below meth c s₁ B hml hv
  obtain ⟨rfl, hsz, hP, hKN, hD0⟩ := hv
  have hK := hKN.1
  have hx := B.exec
  have hb := B.bytes
  have hr := B.returns
  have hts := fun (w : Cond) (h : w ∈ gt) => atoms_spec (ws := w_PW_putStage) B.pre w (List.mem_cons_of_mem _ h)
  have hown : s.vm.findClass R_PW = some m.cls := findClass_of_methodNamed B.named
  have hlocks := B.notSynchronized
  subst hsz
  have hD := hD0.self (sz := s.heap.size)
  generalize hAe : va_A [(ha, .inl (cI, N, .inl f))] s.heap.size = A at hD ⊢
  have hA : ∀ q : Nat, s.heap.size ≤ q → A q := fun q h => by rw [← hAe]; exact Or.inr h
  have hS : va_S A s.heap s.heap [] := va_S.rf
  have hP : va_P (dC, dI) classes [(ha, .inl (cI, N, .inl f))] s.heap := hP
  clear hAe hD0
  have hl := lv_entry ([.ref ha, .int (nI b), .int (nI k), .int im]) (n := 4) (Nat.le_of_ble_eq_true rfl)
  rw [lg_entry_eq]
  generalize (lg_sl ([.ref ha, .int (nI b), .int (nI k), .int im]) ++ List.replicate (4 - (lg_sl ([.ref ha, .int (nI b), .int (nI k), .int im])).length) Slot.unset).toArray = ls at hl ⊢
  have hl : lv_has ls 4 [(0, .ref ha), (1, .int (nI b)), (2, .int (nI k)), (3, .int im)] := hl
  refine lv_aload_n hx hb d_PW_putStage_0 rfl (lv_at hl 0 rfl) ?_
  refine lv_iload_n hx hb d_PW_putStage_1 rfl (lv_at hl 1 rfl) ?_
  refine lv_iconst (v := (nI 1)) hx hb d_PW_putStage_2 (by decide) ?_
  refine lv_iadd hx hb d_PW_putStage_3 ?_
  refine tp (nI_add _ _) ?_
  refine lv_iload_n hx hb d_PW_putStage_4 rfl (lv_at hl 2 rfl) ?_
  refine lv_iadd hx hb d_PW_putStage_5 ?_
  refine tp (y := (nI (b + (1 + k)))) (by rw [nI_add, Nat.add_assoc]) ?_
  refine lv_iload_n hx hb d_PW_putStage_6 rfl (lv_at hl 3 rfl) ?_
  refine lv_iload_n hx hb d_PW_putStage_7 rfl (lv_at hl 2 rfl) ?_
  refine pr_call (va_runS (As := [.int im, .int (nI k)]) (rest := [.int (nI (b + (1 + k))), .ref ha]) ⟨hx, hb, hml, hown, hts⟩ (c_PW_digest l dC dI cI (a := im) (b := (nI k)) ) ⟨callB_of 2 hts (gd kw_96) rfl rfl rfl (hts _ kw_38) (hts _ kw_94) (by decide +kernel) ⟨Nat.le_of_ble_eq_true rfl, Nat.le_of_ble_eq_true rfl⟩, (hts _ kw_95)⟩ ⟨fun a U g mk q => by obtain ⟨q0, qP, qK⟩ := q; exact ⟨q0, qP, qK.call⟩, fun U hU hW => ⟨rfl, by rw [hU]; exact hP.sub [] rfl, hKN.warm hW⟩⟩ rfl rfl hl.1 rfl (lv_room (Nat.le_of_ble_eq_true rfl)) d_PW_putStage_8 ⟨Nat.zero_le _, Nat.zero_le _⟩) ?_
  refine ar_st (k := b + (1 + k)) hx hb hK hP hD hS 0 0 rfl rfl (by omega) (by first | decide | omega) d_PW_putStage_11 (fun H locs hP hD hS => ?_)
  have hP : va_P (dC, dI) classes [(ha, .inl (cI, N, .inl (upd f (b + (1 + k)) (hh im (nI k)))))] H := hP
  have hD : va_D A [(ha, .inl (cI, N, .inl (upd f (b + (1 + k)) (hh im (nI k)))))] := hD
  refine lv_aload_n hx hb d_PW_putStage_12 rfl (lv_at hl 0 rfl) ?_
  refine lv_iload_n hx hb d_PW_putStage_13 rfl (lv_at hl 1 rfl) ?_
  refine lv_bipush (v := (nI 14)) hx hb d_PW_putStage_14 (by decide) ?_
  refine lv_iadd hx hb d_PW_putStage_16 ?_
  refine tp (nI_add _ _) ?_
  refine lv_iload_n hx hb d_PW_putStage_17 rfl (lv_at hl 2 rfl) ?_
  refine lv_iadd hx hb d_PW_putStage_18 ?_
  refine tp (y := (nI (b + (14 + k)))) (by rw [nI_add, Nat.add_assoc]) ?_
  refine lv_iload_n hx hb d_PW_putStage_19 rfl (lv_at hl 3 rfl) ?_
  refine ar_st (k := b + (14 + k)) hx hb hK hP hD hS 0 0 rfl rfl (by omega) (by first | decide | omega) d_PW_putStage_20 (fun H locs hP hD hS => ?_)
  have hP : va_P (dC, dI) classes [(ha, .inl (cI, N, .inl (upd (upd f (b + (1 + k)) (hh im (nI k))) (b + (14 + k)) im)))] H := hP
  have hD : va_D A [(ha, .inl (cI, N, .inl (upd (upd f (b + (1 + k)) (hh im (nI k))) (b + (14 + k)) im)))] := hD
  exact W.vret hx hb hr (fun t ht hW => ⟨⟨(upd (upd f (b + (1 + k)) (hh im (nI k))) (b + (14 + k)) im), rfl, (by first | rfl | (simp only []; done) | (simp only []; rfl) | (simp []; done)), by rw [ht]; exact hP, hD⟩, hS.F ht⟩) hS.2.2 d_PW_putStage_21
set_option maxHeartbeats 4000000 in
set_option maxRecDepth 100000 in
theorem c_Mk_root (l : Launch) (dC : Nat → ClassId) (dI : Nat → Nat → Nat) (cI : ClassId) (hm : Nat) (sc : Int32) (hn : Nat) (nk : Nat) (nd : Nat → Int32)  : Met l y_Mk_root w_Mk_root ({ frames := 0, cells := 0, slots := 0, locals := 0 }) (va_Pc [.ref hm] (fun U => va_P (dC, dI) classes [(hm, .inr (1, [.int sc, .ref hn, .int (nI nk)])), (hn, .inl (cI, 16, .inl nd))] U.heap ∧ KN dC dI cI U)) (qr (nd 1)) 0 0 (fun _ => False) := by
  refine Met.ofW (cc := b_Mk_root) (maxL := 1) (ret := (some .int)) (by decide) rfl ?_
  intro p e s m args below meth c s₁ B hml hv
  obtain ⟨rfl, hP, hKN⟩ := hv
  have hK := hKN.1
  have hx := B.exec
  have hb := B.bytes
  have hr := B.returns
  have hts := fun (w : Cond) (h : w ∈ gt) => atoms_spec (ws := w_Mk_root) B.pre w (List.mem_cons_of_mem _ h)
  have hown : s.vm.findClass R_Mk = some m.cls := findClass_of_methodNamed B.named
  have hlocks := B.notSynchronized
  have hl := lv_entry ([.ref hm]) (n := 1) (Nat.le_of_ble_eq_true rfl)
  rw [lg_entry_eq]
  generalize (lg_sl ([.ref hm]) ++ List.replicate (1 - (lg_sl ([.ref hm])).length) Slot.unset).toArray = ls at hl ⊢
  have hl : lv_has ls 1 [(0, .ref hm)] := hl
  refine lv_aload_n hx hb d_Mk_root_0 rfl (lv_at hl 0 rfl) ?_
  refine va_get (D := (dC, dI)) (ci := 1) (v := .ref hn) (C := R_Mk) (T := F_Mk) (N := 3) hx hb hts in_Mk hown hK hP 0 rfl rfl 1 (by decide) (hts _ kw_77) (fun _ h9 => h9) rfl d_Mk_root_1 ?_
  refine lv_iconst (v := (nI 1)) hx hb d_Mk_root_4 (by decide) ?_
  refine ar_ld (k := 1) hx hb hK hP 1 0 rfl rfl (by omega) (by first | decide | omega) d_Mk_root_5 ?_
  exact W.iret (v := (nd 1)) hx hb hr (fun t ht hW => ⟨_, rfl, (by first | rfl | (simp only []; done) | (simp only []; rfl) | (simp []; done)), ht⟩) (fun q h => by cases h) d_Mk_root_6
set_option maxHeartbeats 4000000 in
set_option maxRecDepth 100000 in
theorem c_Mk_hasKeyLeft (l : Launch) (dC : Nat → ClassId) (dI : Nat → Nat → Nat) (cI : ClassId) (hm : Nat) (sc : Int32) (hn : Nat) (nk : Nat) (hnk : nk ≤ 8) : Met l y_Mk_hasKeyLeft w_Mk_hasKeyLeft ({ frames := 0, cells := 0, slots := 0, locals := 0 }) (va_Pc [.ref hm] (fun U => va_P (dC, dI) classes [(hm, .inr (1, [.int sc, .ref hn, .int (nI nk)]))] U.heap ∧ KN dC dI cI U)) (qr (bI (!decide (8 ≤ nk)))) 0 0 (fun _ => False) := by
  refine Met.ofW (cc := b_Mk_hasKeyLeft) (maxL := 1) (ret := (some .boolean)) (by decide) rfl ?_
  intro p e s m args below meth c s₁ B hml hv
  obtain ⟨rfl, hP, hKN⟩ := hv
  have hK := hKN.1
  have hx := B.exec
  have hb := B.bytes
  have hr := B.returns
  have hts := fun (w : Cond) (h : w ∈ gt) => atoms_spec (ws := w_Mk_hasKeyLeft) B.pre w (List.mem_cons_of_mem _ h)
  have hown : s.vm.findClass R_Mk = some m.cls := findClass_of_methodNamed B.named
  have hlocks := B.notSynchronized
  have hl := lv_entry ([.ref hm]) (n := 1) (Nat.le_of_ble_eq_true rfl)
  rw [lg_entry_eq]
  generalize (lg_sl ([.ref hm]) ++ List.replicate (1 - (lg_sl ([.ref hm])).length) Slot.unset).toArray = ls at hl ⊢
  have hl : lv_has ls 1 [(0, .ref hm)] := hl
  refine lv_aload_n hx hb d_Mk_hasKeyLeft_0 rfl (lv_at hl 0 rfl) ?_
  refine va_get (D := (dC, dI)) (ci := 1) (v := .int (nI nk)) (C := R_Mk) (T := F_Mk) (N := 3) hx hb hts in_Mk hown hK hP 0 rfl rfl 2 (by decide) (hts _ kw_78) (fun _ h9 => h9) rfl d_Mk_hasKeyLeft_1 ?_
  refine lv_bipush (v := (nI 8)) hx hb d_Mk_hasKeyLeft_4 (by decide) ?_
  refine nb_ge (tgt := 13) hx hb d_Mk_hasKeyLeft_6 (by decide) (by first | omega | exact Nat.lt_of_lt_of_le (stt_lt _ _) (by decide)) (by first | omega | exact Nat.lt_of_lt_of_le (stt_lt _ _) (by decide)) (fun h_1 => ?_) (fun h_1 => ?_)
  · refine lv_iconst (v := (nI 0)) hx hb d_Mk_hasKeyLeft_13 (by decide) ?_
    exact W.zret (v := (bI false)) hx hb hr (bI_narrow _) (fun t ht hW => ⟨_, rfl, (by simp [h_1]), ht⟩) (fun q h => by cases h) d_Mk_hasKeyLeft_14
  · refine lv_iconst (v := (nI 1)) hx hb d_Mk_hasKeyLeft_9 (by decide) ?_
    refine lv_goto (tgt := 14) hx hb d_Mk_hasKeyLeft_10 (by decide) ?_
    exact W.zret (v := (bI true)) hx hb hr (bI_narrow _) (fun t ht hW => ⟨_, rfl, (by simp [h_1]), ht⟩) (fun q h => by cases h) d_Mk_hasKeyLeft_14
set_option maxHeartbeats 4000000 in
set_option maxRecDepth 100000 in
theorem c_Mk_leaf (l : Launch) (dC : Nat → ClassId) (dI : Nat → Nat → Nat) (cI : ClassId) (sc : Int32) (q : Nat)  : Met l y_Mk_leaf w_Mk_leaf ({ frames := 2, cells := 0, slots := 0, locals := 47 }) (va_Pc [.int sc, .int (nI q)] (fun U => va_P (dC, dI) classes [] U.heap ∧ KN dC dI cI U)) (qr (mkLeaf sc q)) 0 0 (fun _ => False) := by
  refine Met.ofW (cc := b_Mk_leaf) (maxL := 4) (ret := (some .int)) (by decide) rfl ?_
  intro p e s m args below meth c s₁ B hml hv
  obtain ⟨rfl, hP, hKN⟩ := hv
  have hK := hKN.1
  have hx := B.exec
  have hb := B.bytes
  have hr := B.returns
  have hts := fun (w : Cond) (h : w ∈ gt) => atoms_spec (ws := w_Mk_leaf) B.pre w (List.mem_cons_of_mem _ h)
  have hown : s.vm.findClass R_Mk = some m.cls := findClass_of_methodNamed B.named
  have hlocks := B.notSynchronized
  have hl := lv_entry ([.int sc, .int (nI q)]) (n := 4) (Nat.le_of_ble_eq_true rfl)
  rw [lg_entry_eq]
  generalize (lg_sl ([.int sc, .int (nI q)]) ++ List.replicate (4 - (lg_sl ([.int sc, .int (nI q)])).length) Slot.unset).toArray = ls at hl ⊢
  have hl : lv_has ls 4 [(0, .int sc), (1, .int (nI q))] := hl
  refine lv_iload_n hx hb d_Mk_leaf_0 rfl (lv_at hl 1 rfl) ?_
  refine lv_istore_n (lv' := [(2, .int (nI q)), (0, .int sc), (1, .int (nI q))]) hx hb d_Mk_leaf_1 rfl hl (by decide) rfl (fun ls hl => ?_)
  refine lv_iconst (v := (nI 0)) hx hb d_Mk_leaf_2 (by decide) ?_
  refine lv_istore_n (lv' := [(3, .int (nI 0)), (2, .int (nI q)), (0, .int sc), (1, .int (nI q))]) hx hb d_Mk_leaf_3 rfl hl (by decide) rfl (fun ls hl => ?_)
  refine lv_iload_n hx hb d_Mk_leaf_4 rfl (lv_at hl 0 rfl) ?_
  refine lv_bipush (v := (nI 6)) hx hb d_Mk_leaf_5 (by decide) ?_
  refine nb_ge (tgt := 34) hx hb d_Mk_leaf_7 (by decide) (by decide) (by decide) (fun h_1 => ?_) (fun h_1 => ?_)
  · exact absurd h_1 (by decide)
  · refine lv_iload_n hx hb d_Mk_leaf_10 rfl (lv_at hl 1 rfl) ?_
    refine lv_iload_n hx hb d_Mk_leaf_11 rfl (lv_at hl 2 rfl) ?_
    refine lv_iload_n hx hb d_Mk_leaf_12 rfl (lv_at hl 3 rfl) ?_
    refine lv_iload_n hx hb d_Mk_leaf_13 rfl (lv_at hl 0 rfl) ?_
    refine pr_call (va_runS (As := [.int sc, .int (nI q), .int (nI 0)]) (rest := [.int (nI q)]) ⟨hx, hb, hml, hown, hts⟩ (c_Mk_chainStart l dC dI cI (sc := sc) (q := q) (ch := 0) ) ⟨callB_of 3 hts (gd kw_63) rfl rfl rfl (hts _ kw_36) (hts _ kw_61) (by decide +kernel) ⟨Nat.le_of_ble_eq_true rfl, Nat.le_of_ble_eq_true rfl⟩, (hts _ kw_62)⟩ ⟨fun a U g mk q => by obtain ⟨q0, qP, qK⟩ := q; exact ⟨q0, qP, qK.call⟩, fun U hU hW => ⟨rfl, by rw [hU]; exact hP.sub [] rfl, hKN.warm hW⟩⟩ rfl rfl hl.1 rfl (lv_room (Nat.le_of_ble_eq_true rfl)) d_Mk_leaf_14 ⟨Nat.zero_le _, Nat.zero_le _⟩) ?_
    refine lv_iload_n hx hb d_Mk_leaf_17 rfl (lv_at hl 0 rfl) ?_
    refine lv_iconst (v := (nI 0)) hx hb d_Mk_leaf_18 (by decide) ?_
    refine lv_bipush (v := (nI 15)) hx hb d_Mk_leaf_19 (by decide) ?_
    refine pr_call (va_runS (As := [.int (cs sc q 0), .int (nI 0), .int (nI 0), .int (nI 15)]) (rest := [.int (nI q)]) ⟨hx, hb, hml, hown, hts⟩ (c_Sg_walk l dC dI cI (x := cs sc q 0) (ch := 0) (fr := 0) (to := 15) (hfr := (by first | omega | exact dgt_le _ _)) (hto := (by first | omega | exact dgt_le _ _))) ⟨callB_of 4 hts (gd kw_71) rfl rfl rfl (hts _ kw_37) (hts _ kw_69) (by decide +kernel) ⟨Nat.le_of_ble_eq_true rfl, Nat.le_of_ble_eq_true rfl⟩, (hts _ kw_70)⟩ ⟨fun a U g mk q => by obtain ⟨q0, qP, qK⟩ := q; exact ⟨q0, qP, qK.call⟩, fun U hU hW => ⟨rfl, by rw [hU]; exact hP.sub [] rfl, hKN.warm hW⟩⟩ rfl rfl hl.1 rfl (lv_room (Nat.le_of_ble_eq_true rfl)) d_Mk_leaf_21 ⟨Nat.zero_le _, Nat.zero_le _⟩) ?_
    refine pr_call (va_runSN (As := [.int (nI q), .int (al 0 (15 - 0) 0 (cs sc q 0))]) (rest := []) ⟨hx, hb, hml, hown, hts⟩ (c_TS_hash l dC dI cI (a := (nI q)) (b := al 0 (15 - 0) 0 (cs sc q 0)) ) ⟨va_cnB 2 hts (gd kw_66) rfl rfl rfl (nst_0 hKN.2) (hts _ kw_35) (by decide +kernel) ⟨Nat.le_of_ble_eq_true rfl, Nat.le_of_ble_eq_true rfl⟩, (hts _ kw_65), trivial⟩ ⟨fun a U g mk q => by obtain ⟨q0, qP, qK⟩ := q; exact ⟨q0, qP, qK.call⟩, fun U hU hW => ⟨rfl, by rw [hU]; exact hP.sub [] rfl, hKN.warm hW⟩⟩ rfl rfl hl.1 rfl (lv_room (Nat.le_of_ble_eq_true rfl)) d_Mk_leaf_24 ⟨Nat.zero_le _, Nat.zero_le _⟩) ?_
    refine lv_istore_n (lv' := [(2, .int (hh (nI q) (al 0 (15 - 0) 0 (cs sc q 0)))), (3, .int (nI 0)), (0, .int sc), (1, .int (nI q))]) hx hb d_Mk_leaf_27 rfl hl (by decide) rfl (fun ls hl => ?_)
    refine lv_iinc (k := 1) (v := (nI 1)) (lv' := [(3, .int (nI 1)), (2, .int (hh (nI q) (al 0 (15 - 0) 0 (cs sc q 0)))), (0, .int sc), (1, .int (nI q))]) hx hb d_Mk_leaf_28 hl rfl (by decide) (by decide) rfl (fun ls hl => ?_)
    refine lv_goto (tgt := 4) hx hb d_Mk_leaf_31 (by decide) ?_
    refine lv_iload_n hx hb d_Mk_leaf_4 rfl (lv_at hl 0 rfl) ?_
    refine lv_bipush (v := (nI 6)) hx hb d_Mk_leaf_5 (by decide) ?_
    refine nb_ge (tgt := 34) hx hb d_Mk_leaf_7 (by decide) (by decide) (by decide) (fun h_2 => ?_) (fun h_2 => ?_)
    · exact absurd h_2 (by decide)
    · refine lv_iload_n hx hb d_Mk_leaf_10 rfl (lv_at hl 1 rfl) ?_
      refine lv_iload_n hx hb d_Mk_leaf_11 rfl (lv_at hl 2 rfl) ?_
      refine lv_iload_n hx hb d_Mk_leaf_12 rfl (lv_at hl 3 rfl) ?_
      refine lv_iload_n hx hb d_Mk_leaf_13 rfl (lv_at hl 0 rfl) ?_
      refine pr_call (va_runS (As := [.int sc, .int (nI q), .int (nI 1)]) (rest := [.int (hh (nI q) (al 0 (15 - 0) 0 (cs sc q 0)))]) ⟨hx, hb, hml, hown, hts⟩ (c_Mk_chainStart l dC dI cI (sc := sc) (q := q) (ch := 1) ) ⟨callB_of 3 hts (gd kw_63) rfl rfl rfl (hts _ kw_36) (hts _ kw_61) (by decide +kernel) ⟨Nat.le_of_ble_eq_true rfl, Nat.le_of_ble_eq_true rfl⟩, (hts _ kw_62)⟩ ⟨fun a U g mk q => by obtain ⟨q0, qP, qK⟩ := q; exact ⟨q0, qP, qK.call⟩, fun U hU hW => ⟨rfl, by rw [hU]; exact hP.sub [] rfl, hKN.warm hW⟩⟩ rfl rfl hl.1 rfl (lv_room (Nat.le_of_ble_eq_true rfl)) d_Mk_leaf_14 ⟨Nat.zero_le _, Nat.zero_le _⟩) ?_
      refine lv_iload_n hx hb d_Mk_leaf_17 rfl (lv_at hl 0 rfl) ?_
      refine lv_iconst (v := (nI 0)) hx hb d_Mk_leaf_18 (by decide) ?_
      refine lv_bipush (v := (nI 15)) hx hb d_Mk_leaf_19 (by decide) ?_
      refine pr_call (va_runS (As := [.int (cs sc q 1), .int (nI 1), .int (nI 0), .int (nI 15)]) (rest := [.int (hh (nI q) (al 0 (15 - 0) 0 (cs sc q 0)))]) ⟨hx, hb, hml, hown, hts⟩ (c_Sg_walk l dC dI cI (x := cs sc q 1) (ch := 1) (fr := 0) (to := 15) (hfr := (by first | omega | exact dgt_le _ _)) (hto := (by first | omega | exact dgt_le _ _))) ⟨callB_of 4 hts (gd kw_71) rfl rfl rfl (hts _ kw_37) (hts _ kw_69) (by decide +kernel) ⟨Nat.le_of_ble_eq_true rfl, Nat.le_of_ble_eq_true rfl⟩, (hts _ kw_70)⟩ ⟨fun a U g mk q => by obtain ⟨q0, qP, qK⟩ := q; exact ⟨q0, qP, qK.call⟩, fun U hU hW => ⟨rfl, by rw [hU]; exact hP.sub [] rfl, hKN.warm hW⟩⟩ rfl rfl hl.1 rfl (lv_room (Nat.le_of_ble_eq_true rfl)) d_Mk_leaf_21 ⟨Nat.zero_le _, Nat.zero_le _⟩) ?_
      refine pr_call (va_runSN (As := [.int (hh (nI q) (al 0 (15 - 0) 0 (cs sc q 0))), .int (al 1 (15 - 0) 0 (cs sc q 1))]) (rest := []) ⟨hx, hb, hml, hown, hts⟩ (c_TS_hash l dC dI cI (a := hh (nI q) (al 0 (15 - 0) 0 (cs sc q 0))) (b := al 1 (15 - 0) 0 (cs sc q 1)) ) ⟨va_cnB 2 hts (gd kw_66) rfl rfl rfl (nst_0 hKN.2) (hts _ kw_35) (by decide +kernel) ⟨Nat.le_of_ble_eq_true rfl, Nat.le_of_ble_eq_true rfl⟩, (hts _ kw_65), trivial⟩ ⟨fun a U g mk q => by obtain ⟨q0, qP, qK⟩ := q; exact ⟨q0, qP, qK.call⟩, fun U hU hW => ⟨rfl, by rw [hU]; exact hP.sub [] rfl, hKN.warm hW⟩⟩ rfl rfl hl.1 rfl (lv_room (Nat.le_of_ble_eq_true rfl)) d_Mk_leaf_24 ⟨Nat.zero_le _, Nat.zero_le _⟩) ?_
      refine lv_istore_n (lv' := [(2, .int (hh (hh (nI q) (al 0 (15 - 0) 0 (cs sc q 0))) (al 1 (15 - 0) 0 (cs sc q 1)))), (3, .int (nI 1)), (0, .int sc), (1, .int (nI q))]) hx hb d_Mk_leaf_27 rfl hl (by decide) rfl (fun ls hl => ?_)
      refine lv_iinc (k := 1) (v := (nI 2)) (lv' := [(3, .int (nI 2)), (2, .int (hh (hh (nI q) (al 0 (15 - 0) 0 (cs sc q 0))) (al 1 (15 - 0) 0 (cs sc q 1)))), (0, .int sc), (1, .int (nI q))]) hx hb d_Mk_leaf_28 hl rfl (by decide) (by decide) rfl (fun ls hl => ?_)
      refine lv_goto (tgt := 4) hx hb d_Mk_leaf_31 (by decide) ?_
      refine lv_iload_n hx hb d_Mk_leaf_4 rfl (lv_at hl 0 rfl) ?_
      refine lv_bipush (v := (nI 6)) hx hb d_Mk_leaf_5 (by decide) ?_
      refine nb_ge (tgt := 34) hx hb d_Mk_leaf_7 (by decide) (by decide) (by decide) (fun h_3 => ?_) (fun h_3 => ?_)
      · exact absurd h_3 (by decide)
      · refine lv_iload_n hx hb d_Mk_leaf_10 rfl (lv_at hl 1 rfl) ?_
        refine lv_iload_n hx hb d_Mk_leaf_11 rfl (lv_at hl 2 rfl) ?_
        refine lv_iload_n hx hb d_Mk_leaf_12 rfl (lv_at hl 3 rfl) ?_
        refine lv_iload_n hx hb d_Mk_leaf_13 rfl (lv_at hl 0 rfl) ?_
        refine pr_call (va_runS (As := [.int sc, .int (nI q), .int (nI 2)]) (rest := [.int (hh (hh (nI q) (al 0 (15 - 0) 0 (cs sc q 0))) (al 1 (15 - 0) 0 (cs sc q 1)))]) ⟨hx, hb, hml, hown, hts⟩ (c_Mk_chainStart l dC dI cI (sc := sc) (q := q) (ch := 2) ) ⟨callB_of 3 hts (gd kw_63) rfl rfl rfl (hts _ kw_36) (hts _ kw_61) (by decide +kernel) ⟨Nat.le_of_ble_eq_true rfl, Nat.le_of_ble_eq_true rfl⟩, (hts _ kw_62)⟩ ⟨fun a U g mk q => by obtain ⟨q0, qP, qK⟩ := q; exact ⟨q0, qP, qK.call⟩, fun U hU hW => ⟨rfl, by rw [hU]; exact hP.sub [] rfl, hKN.warm hW⟩⟩ rfl rfl hl.1 rfl (lv_room (Nat.le_of_ble_eq_true rfl)) d_Mk_leaf_14 ⟨Nat.zero_le _, Nat.zero_le _⟩) ?_
        refine lv_iload_n hx hb d_Mk_leaf_17 rfl (lv_at hl 0 rfl) ?_
        refine lv_iconst (v := (nI 0)) hx hb d_Mk_leaf_18 (by decide) ?_
        refine lv_bipush (v := (nI 15)) hx hb d_Mk_leaf_19 (by decide) ?_
        refine pr_call (va_runS (As := [.int (cs sc q 2), .int (nI 2), .int (nI 0), .int (nI 15)]) (rest := [.int (hh (hh (nI q) (al 0 (15 - 0) 0 (cs sc q 0))) (al 1 (15 - 0) 0 (cs sc q 1)))]) ⟨hx, hb, hml, hown, hts⟩ (c_Sg_walk l dC dI cI (x := cs sc q 2) (ch := 2) (fr := 0) (to := 15) (hfr := (by first | omega | exact dgt_le _ _)) (hto := (by first | omega | exact dgt_le _ _))) ⟨callB_of 4 hts (gd kw_71) rfl rfl rfl (hts _ kw_37) (hts _ kw_69) (by decide +kernel) ⟨Nat.le_of_ble_eq_true rfl, Nat.le_of_ble_eq_true rfl⟩, (hts _ kw_70)⟩ ⟨fun a U g mk q => by obtain ⟨q0, qP, qK⟩ := q; exact ⟨q0, qP, qK.call⟩, fun U hU hW => ⟨rfl, by rw [hU]; exact hP.sub [] rfl, hKN.warm hW⟩⟩ rfl rfl hl.1 rfl (lv_room (Nat.le_of_ble_eq_true rfl)) d_Mk_leaf_21 ⟨Nat.zero_le _, Nat.zero_le _⟩) ?_
        refine pr_call (va_runSN (As := [.int (hh (hh (nI q) (al 0 (15 - 0) 0 (cs sc q 0))) (al 1 (15 - 0) 0 (cs sc q 1))), .int (al 2 (15 - 0) 0 (cs sc q 2))]) (rest := []) ⟨hx, hb, hml, hown, hts⟩ (c_TS_hash l dC dI cI (a := hh (hh (nI q) (al 0 (15 - 0) 0 (cs sc q 0))) (al 1 (15 - 0) 0 (cs sc q 1))) (b := al 2 (15 - 0) 0 (cs sc q 2)) ) ⟨va_cnB 2 hts (gd kw_66) rfl rfl rfl (nst_0 hKN.2) (hts _ kw_35) (by decide +kernel) ⟨Nat.le_of_ble_eq_true rfl, Nat.le_of_ble_eq_true rfl⟩, (hts _ kw_65), trivial⟩ ⟨fun a U g mk q => by obtain ⟨q0, qP, qK⟩ := q; exact ⟨q0, qP, qK.call⟩, fun U hU hW => ⟨rfl, by rw [hU]; exact hP.sub [] rfl, hKN.warm hW⟩⟩ rfl rfl hl.1 rfl (lv_room (Nat.le_of_ble_eq_true rfl)) d_Mk_leaf_24 ⟨Nat.zero_le _, Nat.zero_le _⟩) ?_
        refine lv_istore_n (lv' := [(2, .int (hh (hh (hh (nI q) (al 0 (15 - 0) 0 (cs sc q 0))) (al 1 (15 - 0) 0 (cs sc q 1))) (al 2 (15 - 0) 0 (cs sc q 2)))), (3, .int (nI 2)), (0, .int sc), (1, .int (nI q))]) hx hb d_Mk_leaf_27 rfl hl (by decide) rfl (fun ls hl => ?_)
        refine lv_iinc (k := 1) (v := (nI 3)) (lv' := [(3, .int (nI 3)), (2, .int (hh (hh (hh (nI q) (al 0 (15 - 0) 0 (cs sc q 0))) (al 1 (15 - 0) 0 (cs sc q 1))) (al 2 (15 - 0) 0 (cs sc q 2)))), (0, .int sc), (1, .int (nI q))]) hx hb d_Mk_leaf_28 hl rfl (by decide) (by decide) rfl (fun ls hl => ?_)
        refine lv_goto (tgt := 4) hx hb d_Mk_leaf_31 (by decide) ?_
        refine lv_iload_n hx hb d_Mk_leaf_4 rfl (lv_at hl 0 rfl) ?_
        refine lv_bipush (v := (nI 6)) hx hb d_Mk_leaf_5 (by decide) ?_
        refine nb_ge (tgt := 34) hx hb d_Mk_leaf_7 (by decide) (by decide) (by decide) (fun h_4 => ?_) (fun h_4 => ?_)
        · exact absurd h_4 (by decide)
        · refine lv_iload_n hx hb d_Mk_leaf_10 rfl (lv_at hl 1 rfl) ?_
          refine lv_iload_n hx hb d_Mk_leaf_11 rfl (lv_at hl 2 rfl) ?_
          refine lv_iload_n hx hb d_Mk_leaf_12 rfl (lv_at hl 3 rfl) ?_
          refine lv_iload_n hx hb d_Mk_leaf_13 rfl (lv_at hl 0 rfl) ?_
          refine pr_call (va_runS (As := [.int sc, .int (nI q), .int (nI 3)]) (rest := [.int (hh (hh (hh (nI q) (al 0 (15 - 0) 0 (cs sc q 0))) (al 1 (15 - 0) 0 (cs sc q 1))) (al 2 (15 - 0) 0 (cs sc q 2)))]) ⟨hx, hb, hml, hown, hts⟩ (c_Mk_chainStart l dC dI cI (sc := sc) (q := q) (ch := 3) ) ⟨callB_of 3 hts (gd kw_63) rfl rfl rfl (hts _ kw_36) (hts _ kw_61) (by decide +kernel) ⟨Nat.le_of_ble_eq_true rfl, Nat.le_of_ble_eq_true rfl⟩, (hts _ kw_62)⟩ ⟨fun a U g mk q => by obtain ⟨q0, qP, qK⟩ := q; exact ⟨q0, qP, qK.call⟩, fun U hU hW => ⟨rfl, by rw [hU]; exact hP.sub [] rfl, hKN.warm hW⟩⟩ rfl rfl hl.1 rfl (lv_room (Nat.le_of_ble_eq_true rfl)) d_Mk_leaf_14 ⟨Nat.zero_le _, Nat.zero_le _⟩) ?_
          refine lv_iload_n hx hb d_Mk_leaf_17 rfl (lv_at hl 0 rfl) ?_
          refine lv_iconst (v := (nI 0)) hx hb d_Mk_leaf_18 (by decide) ?_
          refine lv_bipush (v := (nI 15)) hx hb d_Mk_leaf_19 (by decide) ?_
          refine pr_call (va_runS (As := [.int (cs sc q 3), .int (nI 3), .int (nI 0), .int (nI 15)]) (rest := [.int (hh (hh (hh (nI q) (al 0 (15 - 0) 0 (cs sc q 0))) (al 1 (15 - 0) 0 (cs sc q 1))) (al 2 (15 - 0) 0 (cs sc q 2)))]) ⟨hx, hb, hml, hown, hts⟩ (c_Sg_walk l dC dI cI (x := cs sc q 3) (ch := 3) (fr := 0) (to := 15) (hfr := (by first | omega | exact dgt_le _ _)) (hto := (by first | omega | exact dgt_le _ _))) ⟨callB_of 4 hts (gd kw_71) rfl rfl rfl (hts _ kw_37) (hts _ kw_69) (by decide +kernel) ⟨Nat.le_of_ble_eq_true rfl, Nat.le_of_ble_eq_true rfl⟩, (hts _ kw_70)⟩ ⟨fun a U g mk q => by obtain ⟨q0, qP, qK⟩ := q; exact ⟨q0, qP, qK.call⟩, fun U hU hW => ⟨rfl, by rw [hU]; exact hP.sub [] rfl, hKN.warm hW⟩⟩ rfl rfl hl.1 rfl (lv_room (Nat.le_of_ble_eq_true rfl)) d_Mk_leaf_21 ⟨Nat.zero_le _, Nat.zero_le _⟩) ?_
          refine pr_call (va_runSN (As := [.int (hh (hh (hh (nI q) (al 0 (15 - 0) 0 (cs sc q 0))) (al 1 (15 - 0) 0 (cs sc q 1))) (al 2 (15 - 0) 0 (cs sc q 2))), .int (al 3 (15 - 0) 0 (cs sc q 3))]) (rest := []) ⟨hx, hb, hml, hown, hts⟩ (c_TS_hash l dC dI cI (a := hh (hh (hh (nI q) (al 0 (15 - 0) 0 (cs sc q 0))) (al 1 (15 - 0) 0 (cs sc q 1))) (al 2 (15 - 0) 0 (cs sc q 2))) (b := al 3 (15 - 0) 0 (cs sc q 3)) ) ⟨va_cnB 2 hts (gd kw_66) rfl rfl rfl (nst_0 hKN.2) (hts _ kw_35) (by decide +kernel) ⟨Nat.le_of_ble_eq_true rfl, Nat.le_of_ble_eq_true rfl⟩, (hts _ kw_65), trivial⟩ ⟨fun a U g mk q => by obtain ⟨q0, qP, qK⟩ := q; exact ⟨q0, qP, qK.call⟩, fun U hU hW => ⟨rfl, by rw [hU]; exact hP.sub [] rfl, hKN.warm hW⟩⟩ rfl rfl hl.1 rfl (lv_room (Nat.le_of_ble_eq_true rfl)) d_Mk_leaf_24 ⟨Nat.zero_le _, Nat.zero_le _⟩) ?_
          refine lv_istore_n (lv' := [(2, .int (hh (hh (hh (hh (nI q) (al 0 (15 - 0) 0 (cs sc q 0))) (al 1 (15 - 0) 0 (cs sc q 1))) (al 2 (15 - 0) 0 (cs sc q 2))) (al 3 (15 - 0) 0 (cs sc q 3)))), (3, .int (nI 3)), (0, .int sc), (1, .int (nI q))]) hx hb d_Mk_leaf_27 rfl hl (by decide) rfl (fun ls hl => ?_)
          refine lv_iinc (k := 1) (v := (nI 4)) (lv' := [(3, .int (nI 4)), (2, .int (hh (hh (hh (hh (nI q) (al 0 (15 - 0) 0 (cs sc q 0))) (al 1 (15 - 0) 0 (cs sc q 1))) (al 2 (15 - 0) 0 (cs sc q 2))) (al 3 (15 - 0) 0 (cs sc q 3)))), (0, .int sc), (1, .int (nI q))]) hx hb d_Mk_leaf_28 hl rfl (by decide) (by decide) rfl (fun ls hl => ?_)
          refine lv_goto (tgt := 4) hx hb d_Mk_leaf_31 (by decide) ?_
          refine lv_iload_n hx hb d_Mk_leaf_4 rfl (lv_at hl 0 rfl) ?_
          refine lv_bipush (v := (nI 6)) hx hb d_Mk_leaf_5 (by decide) ?_
          refine nb_ge (tgt := 34) hx hb d_Mk_leaf_7 (by decide) (by decide) (by decide) (fun h_5 => ?_) (fun h_5 => ?_)
          · exact absurd h_5 (by decide)
          · refine lv_iload_n hx hb d_Mk_leaf_10 rfl (lv_at hl 1 rfl) ?_
            refine lv_iload_n hx hb d_Mk_leaf_11 rfl (lv_at hl 2 rfl) ?_
            refine lv_iload_n hx hb d_Mk_leaf_12 rfl (lv_at hl 3 rfl) ?_
            refine lv_iload_n hx hb d_Mk_leaf_13 rfl (lv_at hl 0 rfl) ?_
            refine pr_call (va_runS (As := [.int sc, .int (nI q), .int (nI 4)]) (rest := [.int (hh (hh (hh (hh (nI q) (al 0 (15 - 0) 0 (cs sc q 0))) (al 1 (15 - 0) 0 (cs sc q 1))) (al 2 (15 - 0) 0 (cs sc q 2))) (al 3 (15 - 0) 0 (cs sc q 3)))]) ⟨hx, hb, hml, hown, hts⟩ (c_Mk_chainStart l dC dI cI (sc := sc) (q := q) (ch := 4) ) ⟨callB_of 3 hts (gd kw_63) rfl rfl rfl (hts _ kw_36) (hts _ kw_61) (by decide +kernel) ⟨Nat.le_of_ble_eq_true rfl, Nat.le_of_ble_eq_true rfl⟩, (hts _ kw_62)⟩ ⟨fun a U g mk q => by obtain ⟨q0, qP, qK⟩ := q; exact ⟨q0, qP, qK.call⟩, fun U hU hW => ⟨rfl, by rw [hU]; exact hP.sub [] rfl, hKN.warm hW⟩⟩ rfl rfl hl.1 rfl (lv_room (Nat.le_of_ble_eq_true rfl)) d_Mk_leaf_14 ⟨Nat.zero_le _, Nat.zero_le _⟩) ?_
            refine lv_iload_n hx hb d_Mk_leaf_17 rfl (lv_at hl 0 rfl) ?_
            refine lv_iconst (v := (nI 0)) hx hb d_Mk_leaf_18 (by decide) ?_
            refine lv_bipush (v := (nI 15)) hx hb d_Mk_leaf_19 (by decide) ?_
            refine pr_call (va_runS (As := [.int (cs sc q 4), .int (nI 4), .int (nI 0), .int (nI 15)]) (rest := [.int (hh (hh (hh (hh (nI q) (al 0 (15 - 0) 0 (cs sc q 0))) (al 1 (15 - 0) 0 (cs sc q 1))) (al 2 (15 - 0) 0 (cs sc q 2))) (al 3 (15 - 0) 0 (cs sc q 3)))]) ⟨hx, hb, hml, hown, hts⟩ (c_Sg_walk l dC dI cI (x := cs sc q 4) (ch := 4) (fr := 0) (to := 15) (hfr := (by first | omega | exact dgt_le _ _)) (hto := (by first | omega | exact dgt_le _ _))) ⟨callB_of 4 hts (gd kw_71) rfl rfl rfl (hts _ kw_37) (hts _ kw_69) (by decide +kernel) ⟨Nat.le_of_ble_eq_true rfl, Nat.le_of_ble_eq_true rfl⟩, (hts _ kw_70)⟩ ⟨fun a U g mk q => by obtain ⟨q0, qP, qK⟩ := q; exact ⟨q0, qP, qK.call⟩, fun U hU hW => ⟨rfl, by rw [hU]; exact hP.sub [] rfl, hKN.warm hW⟩⟩ rfl rfl hl.1 rfl (lv_room (Nat.le_of_ble_eq_true rfl)) d_Mk_leaf_21 ⟨Nat.zero_le _, Nat.zero_le _⟩) ?_
            refine pr_call (va_runSN (As := [.int (hh (hh (hh (hh (nI q) (al 0 (15 - 0) 0 (cs sc q 0))) (al 1 (15 - 0) 0 (cs sc q 1))) (al 2 (15 - 0) 0 (cs sc q 2))) (al 3 (15 - 0) 0 (cs sc q 3))), .int (al 4 (15 - 0) 0 (cs sc q 4))]) (rest := []) ⟨hx, hb, hml, hown, hts⟩ (c_TS_hash l dC dI cI (a := hh (hh (hh (hh (nI q) (al 0 (15 - 0) 0 (cs sc q 0))) (al 1 (15 - 0) 0 (cs sc q 1))) (al 2 (15 - 0) 0 (cs sc q 2))) (al 3 (15 - 0) 0 (cs sc q 3))) (b := al 4 (15 - 0) 0 (cs sc q 4)) ) ⟨va_cnB 2 hts (gd kw_66) rfl rfl rfl (nst_0 hKN.2) (hts _ kw_35) (by decide +kernel) ⟨Nat.le_of_ble_eq_true rfl, Nat.le_of_ble_eq_true rfl⟩, (hts _ kw_65), trivial⟩ ⟨fun a U g mk q => by obtain ⟨q0, qP, qK⟩ := q; exact ⟨q0, qP, qK.call⟩, fun U hU hW => ⟨rfl, by rw [hU]; exact hP.sub [] rfl, hKN.warm hW⟩⟩ rfl rfl hl.1 rfl (lv_room (Nat.le_of_ble_eq_true rfl)) d_Mk_leaf_24 ⟨Nat.zero_le _, Nat.zero_le _⟩) ?_
            refine lv_istore_n (lv' := [(2, .int (hh (hh (hh (hh (hh (nI q) (al 0 (15 - 0) 0 (cs sc q 0))) (al 1 (15 - 0) 0 (cs sc q 1))) (al 2 (15 - 0) 0 (cs sc q 2))) (al 3 (15 - 0) 0 (cs sc q 3))) (al 4 (15 - 0) 0 (cs sc q 4)))), (3, .int (nI 4)), (0, .int sc), (1, .int (nI q))]) hx hb d_Mk_leaf_27 rfl hl (by decide) rfl (fun ls hl => ?_)
            refine lv_iinc (k := 1) (v := (nI 5)) (lv' := [(3, .int (nI 5)), (2, .int (hh (hh (hh (hh (hh (nI q) (al 0 (15 - 0) 0 (cs sc q 0))) (al 1 (15 - 0) 0 (cs sc q 1))) (al 2 (15 - 0) 0 (cs sc q 2))) (al 3 (15 - 0) 0 (cs sc q 3))) (al 4 (15 - 0) 0 (cs sc q 4)))), (0, .int sc), (1, .int (nI q))]) hx hb d_Mk_leaf_28 hl rfl (by decide) (by decide) rfl (fun ls hl => ?_)
            refine lv_goto (tgt := 4) hx hb d_Mk_leaf_31 (by decide) ?_
            refine lv_iload_n hx hb d_Mk_leaf_4 rfl (lv_at hl 0 rfl) ?_
            refine lv_bipush (v := (nI 6)) hx hb d_Mk_leaf_5 (by decide) ?_
            refine nb_ge (tgt := 34) hx hb d_Mk_leaf_7 (by decide) (by decide) (by decide) (fun h_6 => ?_) (fun h_6 => ?_)
            · exact absurd h_6 (by decide)
            · refine lv_iload_n hx hb d_Mk_leaf_10 rfl (lv_at hl 1 rfl) ?_
              refine lv_iload_n hx hb d_Mk_leaf_11 rfl (lv_at hl 2 rfl) ?_
              refine lv_iload_n hx hb d_Mk_leaf_12 rfl (lv_at hl 3 rfl) ?_
              refine lv_iload_n hx hb d_Mk_leaf_13 rfl (lv_at hl 0 rfl) ?_
              refine pr_call (va_runS (As := [.int sc, .int (nI q), .int (nI 5)]) (rest := [.int (hh (hh (hh (hh (hh (nI q) (al 0 (15 - 0) 0 (cs sc q 0))) (al 1 (15 - 0) 0 (cs sc q 1))) (al 2 (15 - 0) 0 (cs sc q 2))) (al 3 (15 - 0) 0 (cs sc q 3))) (al 4 (15 - 0) 0 (cs sc q 4)))]) ⟨hx, hb, hml, hown, hts⟩ (c_Mk_chainStart l dC dI cI (sc := sc) (q := q) (ch := 5) ) ⟨callB_of 3 hts (gd kw_63) rfl rfl rfl (hts _ kw_36) (hts _ kw_61) (by decide +kernel) ⟨Nat.le_of_ble_eq_true rfl, Nat.le_of_ble_eq_true rfl⟩, (hts _ kw_62)⟩ ⟨fun a U g mk q => by obtain ⟨q0, qP, qK⟩ := q; exact ⟨q0, qP, qK.call⟩, fun U hU hW => ⟨rfl, by rw [hU]; exact hP.sub [] rfl, hKN.warm hW⟩⟩ rfl rfl hl.1 rfl (lv_room (Nat.le_of_ble_eq_true rfl)) d_Mk_leaf_14 ⟨Nat.zero_le _, Nat.zero_le _⟩) ?_
              refine lv_iload_n hx hb d_Mk_leaf_17 rfl (lv_at hl 0 rfl) ?_
              refine lv_iconst (v := (nI 0)) hx hb d_Mk_leaf_18 (by decide) ?_
              refine lv_bipush (v := (nI 15)) hx hb d_Mk_leaf_19 (by decide) ?_
              refine pr_call (va_runS (As := [.int (cs sc q 5), .int (nI 5), .int (nI 0), .int (nI 15)]) (rest := [.int (hh (hh (hh (hh (hh (nI q) (al 0 (15 - 0) 0 (cs sc q 0))) (al 1 (15 - 0) 0 (cs sc q 1))) (al 2 (15 - 0) 0 (cs sc q 2))) (al 3 (15 - 0) 0 (cs sc q 3))) (al 4 (15 - 0) 0 (cs sc q 4)))]) ⟨hx, hb, hml, hown, hts⟩ (c_Sg_walk l dC dI cI (x := cs sc q 5) (ch := 5) (fr := 0) (to := 15) (hfr := (by first | omega | exact dgt_le _ _)) (hto := (by first | omega | exact dgt_le _ _))) ⟨callB_of 4 hts (gd kw_71) rfl rfl rfl (hts _ kw_37) (hts _ kw_69) (by decide +kernel) ⟨Nat.le_of_ble_eq_true rfl, Nat.le_of_ble_eq_true rfl⟩, (hts _ kw_70)⟩ ⟨fun a U g mk q => by obtain ⟨q0, qP, qK⟩ := q; exact ⟨q0, qP, qK.call⟩, fun U hU hW => ⟨rfl, by rw [hU]; exact hP.sub [] rfl, hKN.warm hW⟩⟩ rfl rfl hl.1 rfl (lv_room (Nat.le_of_ble_eq_true rfl)) d_Mk_leaf_21 ⟨Nat.zero_le _, Nat.zero_le _⟩) ?_
              refine pr_call (va_runSN (As := [.int (hh (hh (hh (hh (hh (nI q) (al 0 (15 - 0) 0 (cs sc q 0))) (al 1 (15 - 0) 0 (cs sc q 1))) (al 2 (15 - 0) 0 (cs sc q 2))) (al 3 (15 - 0) 0 (cs sc q 3))) (al 4 (15 - 0) 0 (cs sc q 4))), .int (al 5 (15 - 0) 0 (cs sc q 5))]) (rest := []) ⟨hx, hb, hml, hown, hts⟩ (c_TS_hash l dC dI cI (a := hh (hh (hh (hh (hh (nI q) (al 0 (15 - 0) 0 (cs sc q 0))) (al 1 (15 - 0) 0 (cs sc q 1))) (al 2 (15 - 0) 0 (cs sc q 2))) (al 3 (15 - 0) 0 (cs sc q 3))) (al 4 (15 - 0) 0 (cs sc q 4))) (b := al 5 (15 - 0) 0 (cs sc q 5)) ) ⟨va_cnB 2 hts (gd kw_66) rfl rfl rfl (nst_0 hKN.2) (hts _ kw_35) (by decide +kernel) ⟨Nat.le_of_ble_eq_true rfl, Nat.le_of_ble_eq_true rfl⟩, (hts _ kw_65), trivial⟩ ⟨fun a U g mk q => by obtain ⟨q0, qP, qK⟩ := q; exact ⟨q0, qP, qK.call⟩, fun U hU hW => ⟨rfl, by rw [hU]; exact hP.sub [] rfl, hKN.warm hW⟩⟩ rfl rfl hl.1 rfl (lv_room (Nat.le_of_ble_eq_true rfl)) d_Mk_leaf_24 ⟨Nat.zero_le _, Nat.zero_le _⟩) ?_
              refine lv_istore_n (lv' := [(2, .int (hh (hh (hh (hh (hh (hh (nI q) (al 0 (15 - 0) 0 (cs sc q 0))) (al 1 (15 - 0) 0 (cs sc q 1))) (al 2 (15 - 0) 0 (cs sc q 2))) (al 3 (15 - 0) 0 (cs sc q 3))) (al 4 (15 - 0) 0 (cs sc q 4))) (al 5 (15 - 0) 0 (cs sc q 5)))), (3, .int (nI 5)), (0, .int sc), (1, .int (nI q))]) hx hb d_Mk_leaf_27 rfl hl (by decide) rfl (fun ls hl => ?_)
              refine lv_iinc (k := 1) (v := (nI 6)) (lv' := [(3, .int (nI 6)), (2, .int (hh (hh (hh (hh (hh (hh (nI q) (al 0 (15 - 0) 0 (cs sc q 0))) (al 1 (15 - 0) 0 (cs sc q 1))) (al 2 (15 - 0) 0 (cs sc q 2))) (al 3 (15 - 0) 0 (cs sc q 3))) (al 4 (15 - 0) 0 (cs sc q 4))) (al 5 (15 - 0) 0 (cs sc q 5)))), (0, .int sc), (1, .int (nI q))]) hx hb d_Mk_leaf_28 hl rfl (by decide) (by decide) rfl (fun ls hl => ?_)
              refine lv_goto (tgt := 4) hx hb d_Mk_leaf_31 (by decide) ?_
              refine lv_iload_n hx hb d_Mk_leaf_4 rfl (lv_at hl 0 rfl) ?_
              refine lv_bipush (v := (nI 6)) hx hb d_Mk_leaf_5 (by decide) ?_
              refine nb_ge (tgt := 34) hx hb d_Mk_leaf_7 (by decide) (by decide) (by decide) (fun h_7 => ?_) (fun h_7 => ?_)
              · refine lv_iload_n hx hb d_Mk_leaf_34 rfl (lv_at hl 1 rfl) ?_
                exact W.iret (v := (hh (hh (hh (hh (hh (hh (nI q) (al 0 (15 - 0) 0 (cs sc q 0))) (al 1 (15 - 0) 0 (cs sc q 1))) (al 2 (15 - 0) 0 (cs sc q 2))) (al 3 (15 - 0) 0 (cs sc q 3))) (al 4 (15 - 0) 0 (cs sc q 4))) (al 5 (15 - 0) 0 (cs sc q 5)))) hx hb hr (fun t ht hW => ⟨_, rfl, (by first | rfl | (simp only []; done) | (simp only []; rfl) | (simp []; done)), ht⟩) (fun q h => by cases h) d_Mk_leaf_35
              · exact absurd h_7 (by decide)
set_option maxHeartbeats 4000000 in
set_option maxRecDepth 100000 in
theorem c_Mk_putChains (l : Launch) (dC : Nat → ClassId) (dI : Nat → Nat → Nat) (cI : ClassId) (hm : Nat) (ha : Nat) (b : Nat) (sc : Int32) (hn : Nat) (nk : Nat) (N : Nat) (f : Nat → Int32) (hN : N < 2 ^ 31) (hbN : b + 17 ≤ N) (sz : Nat) : Met l y_Mk_putChains w_Mk_putChains ({ frames := 2, cells := 0, slots := 0, locals := 47 }) (va_Pc [.ref hm, .ref ha, .int (nI b)] (fun U => U.heap.size = sz ∧ va_P (dC, dI) classes [(hm, .inr (1, [.int sc, .ref hn, .int (nI nk)])), (ha, .inl (cI, N, .inl f))] U.heap ∧ KN dC dI cI U ∧ va_D (fun _ => True) [(hm, .inr (1, [.int sc, .ref hn, .int (nI nk)])), (ha, .inl (cI, N, .inl f))])) (va_Qv (fun u : (Nat → Int32) => putCh sc nk b f = u) (fun (u : (Nat → Int32)) t => va_P (dC, dI) classes [(hm, .inr (1, [.int sc, .ref hn, .int (nI nk)])), (ha, .inl (cI, N, .inl u))] t.heap ∧ va_D (va_A [(hm, .inr (1, [.int sc, .ref hn, .int (nI nk)])), (ha, .inl (cI, N, .inl f))] sz) [(hm, .inr (1, [.int sc, .ref hn, .int (nI nk)])), (ha, .inl (cI, N, .inl u))]) (va_A [(hm, .inr (1, [.int sc, .ref hn, .int (nI nk)])), (ha, .inl (cI, N, .inl f))] sz)) 0 0 (va_A [(hm, .inr (1, [.int sc, .ref hn, .int (nI nk)])), (ha, .inl (cI, N, .inl f))] sz) := by
  refine Met.ofW (cc := b_Mk_putChains) (maxL := 6) (ret := none) (by decide) rfl ?_
  intro p e s m args below meth c s₁ B hml hv
  obtain ⟨rfl, hsz, hP, hKN, hD0⟩ := hv
  have hK := hKN.1
  have hx := B.exec
  have hb := B.bytes
  have hr := B.returns
  have hts := fun (w : Cond) (h : w ∈ gt) => atoms_spec (ws := w_Mk_putChains) B.pre w (List.mem_cons_of_mem _ h)
  have hown : s.vm.findClass R_Mk = some m.cls := findClass_of_methodNamed B.named
  have hlocks := B.notSynchronized
  subst hsz
  have hD := hD0.self (sz := s.heap.size)
  generalize hAe : va_A [(hm, .inr (1, [.int sc, .ref hn, .int (nI nk)])), (ha, .inl (cI, N, .inl f))] s.heap.size = A at hD ⊢
  have hA : ∀ q : Nat, s.heap.size ≤ q → A q := fun q h => by rw [← hAe]; exact Or.inr h
  have hS : va_S A s.heap s.heap [] := va_S.rf
  have hP : va_P (dC, dI) classes [(hm, .inr (1, [.int sc, .ref hn, .int (nI nk)])), (ha, .inl (cI, N, .inl f))] s.heap := hP
  clear hAe hD0
  have hl := lv_entry ([.ref hm, .ref ha, .int (nI b)]) (n := 6) (Nat.le_of_ble_eq_true rfl)
  rw [lg_entry_eq]
  generalize (lg_sl ([.ref hm, .ref ha, .int (nI b)]) ++ List.replicate (6 - (lg_sl ([.ref hm, .ref ha, .int (nI b)])).length) Slot.unset).toArray = ls at hl ⊢
  have hl : lv_has ls 6 [(0, .ref hm), (1, .ref ha), (2, .int (nI b))] := hl
  refine lv_aload_n hx hb d_Mk_putChains_0 rfl (lv_at hl 1 rfl) ?_
  refine lv_iload_n hx hb d_Mk_putChains_1 rfl (lv_at hl 2 rfl) ?_
  refine pr_call (va_runS (As := [.ref ha, .int (nI b)]) (rest := []) ⟨hx, hb, hml, hown, hts⟩ (c_Sg_message l dC dI cI (ha := ha) (b := b) (N := N) (f := f) (hN := (by omega)) (hbN := (by omega))) ⟨callB_of 2 hts (gd kw_104) rfl rfl rfl (hts _ kw_37) (hts _ kw_102) (by decide +kernel) ⟨Nat.le_of_ble_eq_true rfl, Nat.le_of_ble_eq_true rfl⟩, (hts _ kw_103)⟩ ⟨fun a U g mk q => by obtain ⟨q0, qP, qK⟩ := q; exact ⟨q0, qP, qK.call⟩, fun U hU hW => ⟨rfl, by rw [hU]; exact hP.sub [1] rfl, hKN.warm hW⟩⟩ rfl rfl hl.1 rfl (lv_room (Nat.le_of_ble_eq_true rfl)) d_Mk_putChains_2 ⟨Nat.zero_le _, Nat.zero_le _⟩) ?_
  refine lv_istore_n (lv' := [(3, .int (ms4 (fun i => f (b + i)))), (0, .ref hm), (1, .ref ha), (2, .int (nI b))]) hx hb d_Mk_putChains_5 rfl hl (by decide) rfl (fun ls hl => ?_)
  refine lv_iconst (v := (nI 0)) hx hb d_Mk_putChains_6 (by decide) ?_
  refine lv_istore (lv' := [(4, .int (nI 0)), (3, .int (ms4 (fun i => f (b + i)))), (0, .ref hm), (1, .ref ha), (2, .int (nI b))]) hx hb d_Mk_putChains_7 hl (by decide) rfl (fun ls hl => ?_)
  refine lv_iload hx hb d_Mk_putChains_9 (lv_at hl 0 rfl) ?_
  refine lv_bipush (v := (nI 6)) hx hb d_Mk_putChains_11 (by decide) ?_
  refine nb_ge (tgt := 59) hx hb d_Mk_putChains_13 (by decide) (by decide) (by decide) (fun h_1 => ?_) (fun h_1 => ?_)
  · exact absurd h_1 (by decide)
  · refine lv_aload_n hx hb d_Mk_putChains_16 rfl (lv_at hl 2 rfl) ?_
    refine va_get (D := (dC, dI)) (ci := 1) (v := .int sc) (C := R_Mk) (T := F_Mk) (N := 3) hx hb hts in_Mk hown hK hP 0 rfl rfl 0 (by decide) (hts _ kw_76) (fun _ h9 => h9) rfl d_Mk_putChains_17 ?_
    refine lv_aload_n hx hb d_Mk_putChains_20 rfl (lv_at hl 2 rfl) ?_
    refine va_get (D := (dC, dI)) (ci := 1) (v := .int (nI nk)) (C := R_Mk) (T := F_Mk) (N := 3) hx hb hts in_Mk hown hK hP 0 rfl rfl 2 (by decide) (hts _ kw_78) (fun _ h9 => h9) rfl d_Mk_putChains_21 ?_
    refine lv_iload hx hb d_Mk_putChains_24 (lv_at hl 0 rfl) ?_
    refine pr_call (va_runS (As := [.int sc, .int (nI nk), .int (nI 0)]) (rest := []) ⟨hx, hb, hml, hown, hts⟩ (c_Mk_chainStart l dC dI cI (sc := sc) (q := nk) (ch := 0) ) ⟨callB_of 3 hts (gd kw_63) rfl rfl rfl (hts _ kw_36) (hts _ kw_61) (by decide +kernel) ⟨Nat.le_of_ble_eq_true rfl, Nat.le_of_ble_eq_true rfl⟩, (hts _ kw_62)⟩ ⟨fun a U g mk q => by obtain ⟨q0, qP, qK⟩ := q; exact ⟨q0, qP, qK.call⟩, fun U hU hW => ⟨rfl, by rw [hU]; exact hP.sub [] rfl, hKN.warm hW⟩⟩ rfl rfl hl.1 rfl (lv_room (Nat.le_of_ble_eq_true rfl)) d_Mk_putChains_26 ⟨Nat.zero_le _, Nat.zero_le _⟩) ?_
    refine lv_istore (lv' := [(5, .int (cs sc nk 0)), (4, .int (nI 0)), (3, .int (ms4 (fun i => f (b + i)))), (0, .ref hm), (1, .ref ha), (2, .int (nI b))]) hx hb d_Mk_putChains_29 hl (by decide) rfl (fun ls hl => ?_)
    refine lv_aload_n hx hb d_Mk_putChains_31 rfl (lv_at hl 4 rfl) ?_
    refine lv_iload_n hx hb d_Mk_putChains_32 rfl (lv_at hl 5 rfl) ?_
    refine lv_iconst (v := (nI 5)) hx hb d_Mk_putChains_33 (by decide) ?_
    refine lv_iadd hx hb d_Mk_putChains_34 ?_
    refine tp (nI_add _ _) ?_
    refine lv_iload hx hb d_Mk_putChains_35 (lv_at hl 1 rfl) ?_
    refine lv_iadd hx hb d_Mk_putChains_37 ?_
    refine tp (y := (nI (b + 5))) (nI_add _ _) ?_
    refine lv_iload hx hb d_Mk_putChains_38 (lv_at hl 0 rfl) ?_
    refine lv_iload hx hb d_Mk_putChains_40 (lv_at hl 1 rfl) ?_
    refine lv_iconst (v := (nI 0)) hx hb d_Mk_putChains_42 (by decide) ?_
    refine lv_iload_n hx hb d_Mk_putChains_43 rfl (lv_at hl 2 rfl) ?_
    refine lv_iload hx hb d_Mk_putChains_44 (lv_at hl 1 rfl) ?_
    refine pr_call (va_runS (As := [.int (ms4 (fun i => f (b + i))), .int (nI 0)]) (rest := [.int (nI 0), .int (nI 0), .int (cs sc nk 0), .int (nI (b + 5)), .ref ha]) ⟨hx, hb, hml, hown, hts⟩ (c_Sg_digit l dC dI cI (mm := ms4 (fun i => f (b + i))) (ch := 0) (hch := (by omega))) ⟨callB_of 2 hts (gd kw_107) rfl rfl rfl (hts _ kw_37) (hts _ kw_105) (by decide +kernel) ⟨Nat.le_of_ble_eq_true rfl, Nat.le_of_ble_eq_true rfl⟩, (hts _ kw_106)⟩ ⟨fun a U g mk q => by obtain ⟨q0, qP, qK⟩ := q; exact ⟨q0, qP, qK.call⟩, fun U hU hW => ⟨rfl, by rw [hU]; exact hP.sub [] rfl, hKN.warm hW⟩⟩ rfl rfl hl.1 rfl (lv_room (Nat.le_of_ble_eq_true rfl)) d_Mk_putChains_46 ⟨Nat.zero_le _, Nat.zero_le _⟩) ?_
    refine pr_call (va_runS (As := [.int (cs sc nk 0), .int (nI 0), .int (nI 0), .int (nI (dgt (ms4 (fun i => f (b + i))) 0))]) (rest := [.int (nI (b + 5)), .ref ha]) ⟨hx, hb, hml, hown, hts⟩ (c_Sg_walk l dC dI cI (x := cs sc nk 0) (ch := 0) (fr := 0) (to := dgt (ms4 (fun i => f (b + i))) 0) (hfr := (by first | omega | exact dgt_le _ _)) (hto := (by first | omega | exact dgt_le _ _))) ⟨callB_of 4 hts (gd kw_71) rfl rfl rfl (hts _ kw_37) (hts _ kw_69) (by decide +kernel) ⟨Nat.le_of_ble_eq_true rfl, Nat.le_of_ble_eq_true rfl⟩, (hts _ kw_70)⟩ ⟨fun a U g mk q => by obtain ⟨q0, qP, qK⟩ := q; exact ⟨q0, qP, qK.call⟩, fun U hU hW => ⟨rfl, by rw [hU]; exact hP.sub [] rfl, hKN.warm hW⟩⟩ rfl rfl hl.1 rfl (lv_room (Nat.le_of_ble_eq_true rfl)) d_Mk_putChains_49 ⟨Nat.zero_le _, Nat.zero_le _⟩) ?_
    refine ar_st (k := b + 5) hx hb hK hP hD hS 1 0 rfl rfl (by omega) (by first | decide | omega) d_Mk_putChains_52 (fun H locs hP hD hS => ?_)
    have hP : va_P (dC, dI) classes [(hm, .inr (1, [.int sc, .ref hn, .int (nI nk)])), (ha, .inl (cI, N, .inl (upd f (b + 5) (al 0 ((dgt (ms4 (fun i => f (b + i))) 0) - 0) 0 (cs sc nk 0)))))] H := hP
    have hD : va_D A [(hm, .inr (1, [.int sc, .ref hn, .int (nI nk)])), (ha, .inl (cI, N, .inl (upd f (b + 5) (al 0 ((dgt (ms4 (fun i => f (b + i))) 0) - 0) 0 (cs sc nk 0)))))] := hD
    refine lv_iinc (k := 1) (v := (nI 1)) (lv' := [(4, .int (nI 1)), (5, .int (cs sc nk 0)), (3, .int (ms4 (fun i => f (b + i)))), (0, .ref hm), (1, .ref ha), (2, .int (nI b))]) hx hb d_Mk_putChains_53 hl rfl (by decide) (by decide) rfl (fun ls hl => ?_)
    refine lv_goto (tgt := 9) hx hb d_Mk_putChains_56 (by decide) ?_
    refine lv_iload hx hb d_Mk_putChains_9 (lv_at hl 0 rfl) ?_
    refine lv_bipush (v := (nI 6)) hx hb d_Mk_putChains_11 (by decide) ?_
    refine nb_ge (tgt := 59) hx hb d_Mk_putChains_13 (by decide) (by decide) (by decide) (fun h_2 => ?_) (fun h_2 => ?_)
    · exact absurd h_2 (by decide)
    · refine lv_aload_n hx hb d_Mk_putChains_16 rfl (lv_at hl 3 rfl) ?_
      refine va_get (D := (dC, dI)) (ci := 1) (v := .int sc) (C := R_Mk) (T := F_Mk) (N := 3) hx hb hts in_Mk hown hK hP 0 rfl rfl 0 (by decide) (hts _ kw_76) (fun _ h9 => h9) rfl d_Mk_putChains_17 ?_
      refine lv_aload_n hx hb d_Mk_putChains_20 rfl (lv_at hl 3 rfl) ?_
      refine va_get (D := (dC, dI)) (ci := 1) (v := .int (nI nk)) (C := R_Mk) (T := F_Mk) (N := 3) hx hb hts in_Mk hown hK hP 0 rfl rfl 2 (by decide) (hts _ kw_78) (fun _ h9 => h9) rfl d_Mk_putChains_21 ?_
      refine lv_iload hx hb d_Mk_putChains_24 (lv_at hl 0 rfl) ?_
      refine pr_call (va_runS (As := [.int sc, .int (nI nk), .int (nI 1)]) (rest := []) ⟨hx, hb, hml, hown, hts⟩ (c_Mk_chainStart l dC dI cI (sc := sc) (q := nk) (ch := 1) ) ⟨callB_of 3 hts (gd kw_63) rfl rfl rfl (hts _ kw_36) (hts _ kw_61) (by decide +kernel) ⟨Nat.le_of_ble_eq_true rfl, Nat.le_of_ble_eq_true rfl⟩, (hts _ kw_62)⟩ ⟨fun a U g mk q => by obtain ⟨q0, qP, qK⟩ := q; exact ⟨q0, qP, qK.call⟩, fun U hU hW => ⟨rfl, by rw [hU]; exact hP.sub [] rfl, hKN.warm hW⟩⟩ rfl rfl hl.1 rfl (lv_room (Nat.le_of_ble_eq_true rfl)) d_Mk_putChains_26 ⟨Nat.zero_le _, Nat.zero_le _⟩) ?_
      refine lv_istore (lv' := [(5, .int (cs sc nk 1)), (4, .int (nI 1)), (3, .int (ms4 (fun i => f (b + i)))), (0, .ref hm), (1, .ref ha), (2, .int (nI b))]) hx hb d_Mk_putChains_29 hl (by decide) rfl (fun ls hl => ?_)
      refine lv_aload_n hx hb d_Mk_putChains_31 rfl (lv_at hl 4 rfl) ?_
      refine lv_iload_n hx hb d_Mk_putChains_32 rfl (lv_at hl 5 rfl) ?_
      refine lv_iconst (v := (nI 5)) hx hb d_Mk_putChains_33 (by decide) ?_
      refine lv_iadd hx hb d_Mk_putChains_34 ?_
      refine tp (nI_add _ _) ?_
      refine lv_iload hx hb d_Mk_putChains_35 (lv_at hl 1 rfl) ?_
      refine lv_iadd hx hb d_Mk_putChains_37 ?_
      refine tp (y := (nI (b + 6))) (nI_add _ _) ?_
      refine lv_iload hx hb d_Mk_putChains_38 (lv_at hl 0 rfl) ?_
      refine lv_iload hx hb d_Mk_putChains_40 (lv_at hl 1 rfl) ?_
      refine lv_iconst (v := (nI 0)) hx hb d_Mk_putChains_42 (by decide) ?_
      refine lv_iload_n hx hb d_Mk_putChains_43 rfl (lv_at hl 2 rfl) ?_
      refine lv_iload hx hb d_Mk_putChains_44 (lv_at hl 1 rfl) ?_
      refine pr_call (va_runS (As := [.int (ms4 (fun i => f (b + i))), .int (nI 1)]) (rest := [.int (nI 0), .int (nI 1), .int (cs sc nk 1), .int (nI (b + 6)), .ref ha]) ⟨hx, hb, hml, hown, hts⟩ (c_Sg_digit l dC dI cI (mm := ms4 (fun i => f (b + i))) (ch := 1) (hch := (by omega))) ⟨callB_of 2 hts (gd kw_107) rfl rfl rfl (hts _ kw_37) (hts _ kw_105) (by decide +kernel) ⟨Nat.le_of_ble_eq_true rfl, Nat.le_of_ble_eq_true rfl⟩, (hts _ kw_106)⟩ ⟨fun a U g mk q => by obtain ⟨q0, qP, qK⟩ := q; exact ⟨q0, qP, qK.call⟩, fun U hU hW => ⟨rfl, by rw [hU]; exact hP.sub [] rfl, hKN.warm hW⟩⟩ rfl rfl hl.1 rfl (lv_room (Nat.le_of_ble_eq_true rfl)) d_Mk_putChains_46 ⟨Nat.zero_le _, Nat.zero_le _⟩) ?_
      refine pr_call (va_runS (As := [.int (cs sc nk 1), .int (nI 1), .int (nI 0), .int (nI (dgt (ms4 (fun i => f (b + i))) 1))]) (rest := [.int (nI (b + 6)), .ref ha]) ⟨hx, hb, hml, hown, hts⟩ (c_Sg_walk l dC dI cI (x := cs sc nk 1) (ch := 1) (fr := 0) (to := dgt (ms4 (fun i => f (b + i))) 1) (hfr := (by first | omega | exact dgt_le _ _)) (hto := (by first | omega | exact dgt_le _ _))) ⟨callB_of 4 hts (gd kw_71) rfl rfl rfl (hts _ kw_37) (hts _ kw_69) (by decide +kernel) ⟨Nat.le_of_ble_eq_true rfl, Nat.le_of_ble_eq_true rfl⟩, (hts _ kw_70)⟩ ⟨fun a U g mk q => by obtain ⟨q0, qP, qK⟩ := q; exact ⟨q0, qP, qK.call⟩, fun U hU hW => ⟨rfl, by rw [hU]; exact hP.sub [] rfl, hKN.warm hW⟩⟩ rfl rfl hl.1 rfl (lv_room (Nat.le_of_ble_eq_true rfl)) d_Mk_putChains_49 ⟨Nat.zero_le _, Nat.zero_le _⟩) ?_
      refine ar_st (k := b + 6) hx hb hK hP hD hS 1 0 rfl rfl (by omega) (by first | decide | omega) d_Mk_putChains_52 (fun H locs hP hD hS => ?_)
      have hP : va_P (dC, dI) classes [(hm, .inr (1, [.int sc, .ref hn, .int (nI nk)])), (ha, .inl (cI, N, .inl (upd (upd f (b + 5) (al 0 ((dgt (ms4 (fun i => f (b + i))) 0) - 0) 0 (cs sc nk 0))) (b + 6) (al 1 ((dgt (ms4 (fun i => f (b + i))) 1) - 0) 0 (cs sc nk 1)))))] H := hP
      have hD : va_D A [(hm, .inr (1, [.int sc, .ref hn, .int (nI nk)])), (ha, .inl (cI, N, .inl (upd (upd f (b + 5) (al 0 ((dgt (ms4 (fun i => f (b + i))) 0) - 0) 0 (cs sc nk 0))) (b + 6) (al 1 ((dgt (ms4 (fun i => f (b + i))) 1) - 0) 0 (cs sc nk 1)))))] := hD
      refine lv_iinc (k := 1) (v := (nI 2)) (lv' := [(4, .int (nI 2)), (5, .int (cs sc nk 1)), (3, .int (ms4 (fun i => f (b + i)))), (0, .ref hm), (1, .ref ha), (2, .int (nI b))]) hx hb d_Mk_putChains_53 hl rfl (by decide) (by decide) rfl (fun ls hl => ?_)
      refine lv_goto (tgt := 9) hx hb d_Mk_putChains_56 (by decide) ?_
      refine lv_iload hx hb d_Mk_putChains_9 (lv_at hl 0 rfl) ?_
      refine lv_bipush (v := (nI 6)) hx hb d_Mk_putChains_11 (by decide) ?_
      refine nb_ge (tgt := 59) hx hb d_Mk_putChains_13 (by decide) (by decide) (by decide) (fun h_3 => ?_) (fun h_3 => ?_)
      · exact absurd h_3 (by decide)
      · refine lv_aload_n hx hb d_Mk_putChains_16 rfl (lv_at hl 3 rfl) ?_
        refine va_get (D := (dC, dI)) (ci := 1) (v := .int sc) (C := R_Mk) (T := F_Mk) (N := 3) hx hb hts in_Mk hown hK hP 0 rfl rfl 0 (by decide) (hts _ kw_76) (fun _ h9 => h9) rfl d_Mk_putChains_17 ?_
        refine lv_aload_n hx hb d_Mk_putChains_20 rfl (lv_at hl 3 rfl) ?_
        refine va_get (D := (dC, dI)) (ci := 1) (v := .int (nI nk)) (C := R_Mk) (T := F_Mk) (N := 3) hx hb hts in_Mk hown hK hP 0 rfl rfl 2 (by decide) (hts _ kw_78) (fun _ h9 => h9) rfl d_Mk_putChains_21 ?_
        refine lv_iload hx hb d_Mk_putChains_24 (lv_at hl 0 rfl) ?_
        refine pr_call (va_runS (As := [.int sc, .int (nI nk), .int (nI 2)]) (rest := []) ⟨hx, hb, hml, hown, hts⟩ (c_Mk_chainStart l dC dI cI (sc := sc) (q := nk) (ch := 2) ) ⟨callB_of 3 hts (gd kw_63) rfl rfl rfl (hts _ kw_36) (hts _ kw_61) (by decide +kernel) ⟨Nat.le_of_ble_eq_true rfl, Nat.le_of_ble_eq_true rfl⟩, (hts _ kw_62)⟩ ⟨fun a U g mk q => by obtain ⟨q0, qP, qK⟩ := q; exact ⟨q0, qP, qK.call⟩, fun U hU hW => ⟨rfl, by rw [hU]; exact hP.sub [] rfl, hKN.warm hW⟩⟩ rfl rfl hl.1 rfl (lv_room (Nat.le_of_ble_eq_true rfl)) d_Mk_putChains_26 ⟨Nat.zero_le _, Nat.zero_le _⟩) ?_
        refine lv_istore (lv' := [(5, .int (cs sc nk 2)), (4, .int (nI 2)), (3, .int (ms4 (fun i => f (b + i)))), (0, .ref hm), (1, .ref ha), (2, .int (nI b))]) hx hb d_Mk_putChains_29 hl (by decide) rfl (fun ls hl => ?_)
        refine lv_aload_n hx hb d_Mk_putChains_31 rfl (lv_at hl 4 rfl) ?_
        refine lv_iload_n hx hb d_Mk_putChains_32 rfl (lv_at hl 5 rfl) ?_
        refine lv_iconst (v := (nI 5)) hx hb d_Mk_putChains_33 (by decide) ?_
        refine lv_iadd hx hb d_Mk_putChains_34 ?_
        refine tp (nI_add _ _) ?_
        refine lv_iload hx hb d_Mk_putChains_35 (lv_at hl 1 rfl) ?_
        refine lv_iadd hx hb d_Mk_putChains_37 ?_
        refine tp (y := (nI (b + 7))) (nI_add _ _) ?_
        refine lv_iload hx hb d_Mk_putChains_38 (lv_at hl 0 rfl) ?_
        refine lv_iload hx hb d_Mk_putChains_40 (lv_at hl 1 rfl) ?_
        refine lv_iconst (v := (nI 0)) hx hb d_Mk_putChains_42 (by decide) ?_
        refine lv_iload_n hx hb d_Mk_putChains_43 rfl (lv_at hl 2 rfl) ?_
        refine lv_iload hx hb d_Mk_putChains_44 (lv_at hl 1 rfl) ?_
        refine pr_call (va_runS (As := [.int (ms4 (fun i => f (b + i))), .int (nI 2)]) (rest := [.int (nI 0), .int (nI 2), .int (cs sc nk 2), .int (nI (b + 7)), .ref ha]) ⟨hx, hb, hml, hown, hts⟩ (c_Sg_digit l dC dI cI (mm := ms4 (fun i => f (b + i))) (ch := 2) (hch := (by omega))) ⟨callB_of 2 hts (gd kw_107) rfl rfl rfl (hts _ kw_37) (hts _ kw_105) (by decide +kernel) ⟨Nat.le_of_ble_eq_true rfl, Nat.le_of_ble_eq_true rfl⟩, (hts _ kw_106)⟩ ⟨fun a U g mk q => by obtain ⟨q0, qP, qK⟩ := q; exact ⟨q0, qP, qK.call⟩, fun U hU hW => ⟨rfl, by rw [hU]; exact hP.sub [] rfl, hKN.warm hW⟩⟩ rfl rfl hl.1 rfl (lv_room (Nat.le_of_ble_eq_true rfl)) d_Mk_putChains_46 ⟨Nat.zero_le _, Nat.zero_le _⟩) ?_
        refine pr_call (va_runS (As := [.int (cs sc nk 2), .int (nI 2), .int (nI 0), .int (nI (dgt (ms4 (fun i => f (b + i))) 2))]) (rest := [.int (nI (b + 7)), .ref ha]) ⟨hx, hb, hml, hown, hts⟩ (c_Sg_walk l dC dI cI (x := cs sc nk 2) (ch := 2) (fr := 0) (to := dgt (ms4 (fun i => f (b + i))) 2) (hfr := (by first | omega | exact dgt_le _ _)) (hto := (by first | omega | exact dgt_le _ _))) ⟨callB_of 4 hts (gd kw_71) rfl rfl rfl (hts _ kw_37) (hts _ kw_69) (by decide +kernel) ⟨Nat.le_of_ble_eq_true rfl, Nat.le_of_ble_eq_true rfl⟩, (hts _ kw_70)⟩ ⟨fun a U g mk q => by obtain ⟨q0, qP, qK⟩ := q; exact ⟨q0, qP, qK.call⟩, fun U hU hW => ⟨rfl, by rw [hU]; exact hP.sub [] rfl, hKN.warm hW⟩⟩ rfl rfl hl.1 rfl (lv_room (Nat.le_of_ble_eq_true rfl)) d_Mk_putChains_49 ⟨Nat.zero_le _, Nat.zero_le _⟩) ?_
        refine ar_st (k := b + 7) hx hb hK hP hD hS 1 0 rfl rfl (by omega) (by first | decide | omega) d_Mk_putChains_52 (fun H locs hP hD hS => ?_)
        have hP : va_P (dC, dI) classes [(hm, .inr (1, [.int sc, .ref hn, .int (nI nk)])), (ha, .inl (cI, N, .inl (upd (upd (upd f (b + 5) (al 0 ((dgt (ms4 (fun i => f (b + i))) 0) - 0) 0 (cs sc nk 0))) (b + 6) (al 1 ((dgt (ms4 (fun i => f (b + i))) 1) - 0) 0 (cs sc nk 1))) (b + 7) (al 2 ((dgt (ms4 (fun i => f (b + i))) 2) - 0) 0 (cs sc nk 2)))))] H := hP
        have hD : va_D A [(hm, .inr (1, [.int sc, .ref hn, .int (nI nk)])), (ha, .inl (cI, N, .inl (upd (upd (upd f (b + 5) (al 0 ((dgt (ms4 (fun i => f (b + i))) 0) - 0) 0 (cs sc nk 0))) (b + 6) (al 1 ((dgt (ms4 (fun i => f (b + i))) 1) - 0) 0 (cs sc nk 1))) (b + 7) (al 2 ((dgt (ms4 (fun i => f (b + i))) 2) - 0) 0 (cs sc nk 2)))))] := hD
        refine lv_iinc (k := 1) (v := (nI 3)) (lv' := [(4, .int (nI 3)), (5, .int (cs sc nk 2)), (3, .int (ms4 (fun i => f (b + i)))), (0, .ref hm), (1, .ref ha), (2, .int (nI b))]) hx hb d_Mk_putChains_53 hl rfl (by decide) (by decide) rfl (fun ls hl => ?_)
        refine lv_goto (tgt := 9) hx hb d_Mk_putChains_56 (by decide) ?_
        refine lv_iload hx hb d_Mk_putChains_9 (lv_at hl 0 rfl) ?_
        refine lv_bipush (v := (nI 6)) hx hb d_Mk_putChains_11 (by decide) ?_
        refine nb_ge (tgt := 59) hx hb d_Mk_putChains_13 (by decide) (by decide) (by decide) (fun h_4 => ?_) (fun h_4 => ?_)
        · exact absurd h_4 (by decide)
        · refine lv_aload_n hx hb d_Mk_putChains_16 rfl (lv_at hl 3 rfl) ?_
          refine va_get (D := (dC, dI)) (ci := 1) (v := .int sc) (C := R_Mk) (T := F_Mk) (N := 3) hx hb hts in_Mk hown hK hP 0 rfl rfl 0 (by decide) (hts _ kw_76) (fun _ h9 => h9) rfl d_Mk_putChains_17 ?_
          refine lv_aload_n hx hb d_Mk_putChains_20 rfl (lv_at hl 3 rfl) ?_
          refine va_get (D := (dC, dI)) (ci := 1) (v := .int (nI nk)) (C := R_Mk) (T := F_Mk) (N := 3) hx hb hts in_Mk hown hK hP 0 rfl rfl 2 (by decide) (hts _ kw_78) (fun _ h9 => h9) rfl d_Mk_putChains_21 ?_
          refine lv_iload hx hb d_Mk_putChains_24 (lv_at hl 0 rfl) ?_
          refine pr_call (va_runS (As := [.int sc, .int (nI nk), .int (nI 3)]) (rest := []) ⟨hx, hb, hml, hown, hts⟩ (c_Mk_chainStart l dC dI cI (sc := sc) (q := nk) (ch := 3) ) ⟨callB_of 3 hts (gd kw_63) rfl rfl rfl (hts _ kw_36) (hts _ kw_61) (by decide +kernel) ⟨Nat.le_of_ble_eq_true rfl, Nat.le_of_ble_eq_true rfl⟩, (hts _ kw_62)⟩ ⟨fun a U g mk q => by obtain ⟨q0, qP, qK⟩ := q; exact ⟨q0, qP, qK.call⟩, fun U hU hW => ⟨rfl, by rw [hU]; exact hP.sub [] rfl, hKN.warm hW⟩⟩ rfl rfl hl.1 rfl (lv_room (Nat.le_of_ble_eq_true rfl)) d_Mk_putChains_26 ⟨Nat.zero_le _, Nat.zero_le _⟩) ?_
          refine lv_istore (lv' := [(5, .int (cs sc nk 3)), (4, .int (nI 3)), (3, .int (ms4 (fun i => f (b + i)))), (0, .ref hm), (1, .ref ha), (2, .int (nI b))]) hx hb d_Mk_putChains_29 hl (by decide) rfl (fun ls hl => ?_)
          refine lv_aload_n hx hb d_Mk_putChains_31 rfl (lv_at hl 4 rfl) ?_
          refine lv_iload_n hx hb d_Mk_putChains_32 rfl (lv_at hl 5 rfl) ?_
          refine lv_iconst (v := (nI 5)) hx hb d_Mk_putChains_33 (by decide) ?_
          refine lv_iadd hx hb d_Mk_putChains_34 ?_
          refine tp (nI_add _ _) ?_
          refine lv_iload hx hb d_Mk_putChains_35 (lv_at hl 1 rfl) ?_
          refine lv_iadd hx hb d_Mk_putChains_37 ?_
          refine tp (y := (nI (b + 8))) (nI_add _ _) ?_
          refine lv_iload hx hb d_Mk_putChains_38 (lv_at hl 0 rfl) ?_
          refine lv_iload hx hb d_Mk_putChains_40 (lv_at hl 1 rfl) ?_
          refine lv_iconst (v := (nI 0)) hx hb d_Mk_putChains_42 (by decide) ?_
          refine lv_iload_n hx hb d_Mk_putChains_43 rfl (lv_at hl 2 rfl) ?_
          refine lv_iload hx hb d_Mk_putChains_44 (lv_at hl 1 rfl) ?_
          refine pr_call (va_runS (As := [.int (ms4 (fun i => f (b + i))), .int (nI 3)]) (rest := [.int (nI 0), .int (nI 3), .int (cs sc nk 3), .int (nI (b + 8)), .ref ha]) ⟨hx, hb, hml, hown, hts⟩ (c_Sg_digit l dC dI cI (mm := ms4 (fun i => f (b + i))) (ch := 3) (hch := (by omega))) ⟨callB_of 2 hts (gd kw_107) rfl rfl rfl (hts _ kw_37) (hts _ kw_105) (by decide +kernel) ⟨Nat.le_of_ble_eq_true rfl, Nat.le_of_ble_eq_true rfl⟩, (hts _ kw_106)⟩ ⟨fun a U g mk q => by obtain ⟨q0, qP, qK⟩ := q; exact ⟨q0, qP, qK.call⟩, fun U hU hW => ⟨rfl, by rw [hU]; exact hP.sub [] rfl, hKN.warm hW⟩⟩ rfl rfl hl.1 rfl (lv_room (Nat.le_of_ble_eq_true rfl)) d_Mk_putChains_46 ⟨Nat.zero_le _, Nat.zero_le _⟩) ?_
          refine pr_call (va_runS (As := [.int (cs sc nk 3), .int (nI 3), .int (nI 0), .int (nI (dgt (ms4 (fun i => f (b + i))) 3))]) (rest := [.int (nI (b + 8)), .ref ha]) ⟨hx, hb, hml, hown, hts⟩ (c_Sg_walk l dC dI cI (x := cs sc nk 3) (ch := 3) (fr := 0) (to := dgt (ms4 (fun i => f (b + i))) 3) (hfr := (by first | omega | exact dgt_le _ _)) (hto := (by first | omega | exact dgt_le _ _))) ⟨callB_of 4 hts (gd kw_71) rfl rfl rfl (hts _ kw_37) (hts _ kw_69) (by decide +kernel) ⟨Nat.le_of_ble_eq_true rfl, Nat.le_of_ble_eq_true rfl⟩, (hts _ kw_70)⟩ ⟨fun a U g mk q => by obtain ⟨q0, qP, qK⟩ := q; exact ⟨q0, qP, qK.call⟩, fun U hU hW => ⟨rfl, by rw [hU]; exact hP.sub [] rfl, hKN.warm hW⟩⟩ rfl rfl hl.1 rfl (lv_room (Nat.le_of_ble_eq_true rfl)) d_Mk_putChains_49 ⟨Nat.zero_le _, Nat.zero_le _⟩) ?_
          refine ar_st (k := b + 8) hx hb hK hP hD hS 1 0 rfl rfl (by omega) (by first | decide | omega) d_Mk_putChains_52 (fun H locs hP hD hS => ?_)
          have hP : va_P (dC, dI) classes [(hm, .inr (1, [.int sc, .ref hn, .int (nI nk)])), (ha, .inl (cI, N, .inl (upd (upd (upd (upd f (b + 5) (al 0 ((dgt (ms4 (fun i => f (b + i))) 0) - 0) 0 (cs sc nk 0))) (b + 6) (al 1 ((dgt (ms4 (fun i => f (b + i))) 1) - 0) 0 (cs sc nk 1))) (b + 7) (al 2 ((dgt (ms4 (fun i => f (b + i))) 2) - 0) 0 (cs sc nk 2))) (b + 8) (al 3 ((dgt (ms4 (fun i => f (b + i))) 3) - 0) 0 (cs sc nk 3)))))] H := hP
          have hD : va_D A [(hm, .inr (1, [.int sc, .ref hn, .int (nI nk)])), (ha, .inl (cI, N, .inl (upd (upd (upd (upd f (b + 5) (al 0 ((dgt (ms4 (fun i => f (b + i))) 0) - 0) 0 (cs sc nk 0))) (b + 6) (al 1 ((dgt (ms4 (fun i => f (b + i))) 1) - 0) 0 (cs sc nk 1))) (b + 7) (al 2 ((dgt (ms4 (fun i => f (b + i))) 2) - 0) 0 (cs sc nk 2))) (b + 8) (al 3 ((dgt (ms4 (fun i => f (b + i))) 3) - 0) 0 (cs sc nk 3)))))] := hD
          refine lv_iinc (k := 1) (v := (nI 4)) (lv' := [(4, .int (nI 4)), (5, .int (cs sc nk 3)), (3, .int (ms4 (fun i => f (b + i)))), (0, .ref hm), (1, .ref ha), (2, .int (nI b))]) hx hb d_Mk_putChains_53 hl rfl (by decide) (by decide) rfl (fun ls hl => ?_)
          refine lv_goto (tgt := 9) hx hb d_Mk_putChains_56 (by decide) ?_
          refine lv_iload hx hb d_Mk_putChains_9 (lv_at hl 0 rfl) ?_
          refine lv_bipush (v := (nI 6)) hx hb d_Mk_putChains_11 (by decide) ?_
          refine nb_ge (tgt := 59) hx hb d_Mk_putChains_13 (by decide) (by decide) (by decide) (fun h_5 => ?_) (fun h_5 => ?_)
          · exact absurd h_5 (by decide)
          · refine lv_aload_n hx hb d_Mk_putChains_16 rfl (lv_at hl 3 rfl) ?_
            refine va_get (D := (dC, dI)) (ci := 1) (v := .int sc) (C := R_Mk) (T := F_Mk) (N := 3) hx hb hts in_Mk hown hK hP 0 rfl rfl 0 (by decide) (hts _ kw_76) (fun _ h9 => h9) rfl d_Mk_putChains_17 ?_
            refine lv_aload_n hx hb d_Mk_putChains_20 rfl (lv_at hl 3 rfl) ?_
            refine va_get (D := (dC, dI)) (ci := 1) (v := .int (nI nk)) (C := R_Mk) (T := F_Mk) (N := 3) hx hb hts in_Mk hown hK hP 0 rfl rfl 2 (by decide) (hts _ kw_78) (fun _ h9 => h9) rfl d_Mk_putChains_21 ?_
            refine lv_iload hx hb d_Mk_putChains_24 (lv_at hl 0 rfl) ?_
            refine pr_call (va_runS (As := [.int sc, .int (nI nk), .int (nI 4)]) (rest := []) ⟨hx, hb, hml, hown, hts⟩ (c_Mk_chainStart l dC dI cI (sc := sc) (q := nk) (ch := 4) ) ⟨callB_of 3 hts (gd kw_63) rfl rfl rfl (hts _ kw_36) (hts _ kw_61) (by decide +kernel) ⟨Nat.le_of_ble_eq_true rfl, Nat.le_of_ble_eq_true rfl⟩, (hts _ kw_62)⟩ ⟨fun a U g mk q => by obtain ⟨q0, qP, qK⟩ := q; exact ⟨q0, qP, qK.call⟩, fun U hU hW => ⟨rfl, by rw [hU]; exact hP.sub [] rfl, hKN.warm hW⟩⟩ rfl rfl hl.1 rfl (lv_room (Nat.le_of_ble_eq_true rfl)) d_Mk_putChains_26 ⟨Nat.zero_le _, Nat.zero_le _⟩) ?_
            refine lv_istore (lv' := [(5, .int (cs sc nk 4)), (4, .int (nI 4)), (3, .int (ms4 (fun i => f (b + i)))), (0, .ref hm), (1, .ref ha), (2, .int (nI b))]) hx hb d_Mk_putChains_29 hl (by decide) rfl (fun ls hl => ?_)
            refine lv_aload_n hx hb d_Mk_putChains_31 rfl (lv_at hl 4 rfl) ?_
            refine lv_iload_n hx hb d_Mk_putChains_32 rfl (lv_at hl 5 rfl) ?_
            refine lv_iconst (v := (nI 5)) hx hb d_Mk_putChains_33 (by decide) ?_
            refine lv_iadd hx hb d_Mk_putChains_34 ?_
            refine tp (nI_add _ _) ?_
            refine lv_iload hx hb d_Mk_putChains_35 (lv_at hl 1 rfl) ?_
            refine lv_iadd hx hb d_Mk_putChains_37 ?_
            refine tp (y := (nI (b + 9))) (nI_add _ _) ?_
            refine lv_iload hx hb d_Mk_putChains_38 (lv_at hl 0 rfl) ?_
            refine lv_iload hx hb d_Mk_putChains_40 (lv_at hl 1 rfl) ?_
            refine lv_iconst (v := (nI 0)) hx hb d_Mk_putChains_42 (by decide) ?_
            refine lv_iload_n hx hb d_Mk_putChains_43 rfl (lv_at hl 2 rfl) ?_
            refine lv_iload hx hb d_Mk_putChains_44 (lv_at hl 1 rfl) ?_
            refine pr_call (va_runS (As := [.int (ms4 (fun i => f (b + i))), .int (nI 4)]) (rest := [.int (nI 0), .int (nI 4), .int (cs sc nk 4), .int (nI (b + 9)), .ref ha]) ⟨hx, hb, hml, hown, hts⟩ (c_Sg_digit l dC dI cI (mm := ms4 (fun i => f (b + i))) (ch := 4) (hch := (by omega))) ⟨callB_of 2 hts (gd kw_107) rfl rfl rfl (hts _ kw_37) (hts _ kw_105) (by decide +kernel) ⟨Nat.le_of_ble_eq_true rfl, Nat.le_of_ble_eq_true rfl⟩, (hts _ kw_106)⟩ ⟨fun a U g mk q => by obtain ⟨q0, qP, qK⟩ := q; exact ⟨q0, qP, qK.call⟩, fun U hU hW => ⟨rfl, by rw [hU]; exact hP.sub [] rfl, hKN.warm hW⟩⟩ rfl rfl hl.1 rfl (lv_room (Nat.le_of_ble_eq_true rfl)) d_Mk_putChains_46 ⟨Nat.zero_le _, Nat.zero_le _⟩) ?_
            refine pr_call (va_runS (As := [.int (cs sc nk 4), .int (nI 4), .int (nI 0), .int (nI (dgt (ms4 (fun i => f (b + i))) 4))]) (rest := [.int (nI (b + 9)), .ref ha]) ⟨hx, hb, hml, hown, hts⟩ (c_Sg_walk l dC dI cI (x := cs sc nk 4) (ch := 4) (fr := 0) (to := dgt (ms4 (fun i => f (b + i))) 4) (hfr := (by first | omega | exact dgt_le _ _)) (hto := (by first | omega | exact dgt_le _ _))) ⟨callB_of 4 hts (gd kw_71) rfl rfl rfl (hts _ kw_37) (hts _ kw_69) (by decide +kernel) ⟨Nat.le_of_ble_eq_true rfl, Nat.le_of_ble_eq_true rfl⟩, (hts _ kw_70)⟩ ⟨fun a U g mk q => by obtain ⟨q0, qP, qK⟩ := q; exact ⟨q0, qP, qK.call⟩, fun U hU hW => ⟨rfl, by rw [hU]; exact hP.sub [] rfl, hKN.warm hW⟩⟩ rfl rfl hl.1 rfl (lv_room (Nat.le_of_ble_eq_true rfl)) d_Mk_putChains_49 ⟨Nat.zero_le _, Nat.zero_le _⟩) ?_
            refine ar_st (k := b + 9) hx hb hK hP hD hS 1 0 rfl rfl (by omega) (by first | decide | omega) d_Mk_putChains_52 (fun H locs hP hD hS => ?_)
            have hP : va_P (dC, dI) classes [(hm, .inr (1, [.int sc, .ref hn, .int (nI nk)])), (ha, .inl (cI, N, .inl (upd (upd (upd (upd (upd f (b + 5) (al 0 ((dgt (ms4 (fun i => f (b + i))) 0) - 0) 0 (cs sc nk 0))) (b + 6) (al 1 ((dgt (ms4 (fun i => f (b + i))) 1) - 0) 0 (cs sc nk 1))) (b + 7) (al 2 ((dgt (ms4 (fun i => f (b + i))) 2) - 0) 0 (cs sc nk 2))) (b + 8) (al 3 ((dgt (ms4 (fun i => f (b + i))) 3) - 0) 0 (cs sc nk 3))) (b + 9) (al 4 ((dgt (ms4 (fun i => f (b + i))) 4) - 0) 0 (cs sc nk 4)))))] H := hP
            have hD : va_D A [(hm, .inr (1, [.int sc, .ref hn, .int (nI nk)])), (ha, .inl (cI, N, .inl (upd (upd (upd (upd (upd f (b + 5) (al 0 ((dgt (ms4 (fun i => f (b + i))) 0) - 0) 0 (cs sc nk 0))) (b + 6) (al 1 ((dgt (ms4 (fun i => f (b + i))) 1) - 0) 0 (cs sc nk 1))) (b + 7) (al 2 ((dgt (ms4 (fun i => f (b + i))) 2) - 0) 0 (cs sc nk 2))) (b + 8) (al 3 ((dgt (ms4 (fun i => f (b + i))) 3) - 0) 0 (cs sc nk 3))) (b + 9) (al 4 ((dgt (ms4 (fun i => f (b + i))) 4) - 0) 0 (cs sc nk 4)))))] := hD
            refine lv_iinc (k := 1) (v := (nI 5)) (lv' := [(4, .int (nI 5)), (5, .int (cs sc nk 4)), (3, .int (ms4 (fun i => f (b + i)))), (0, .ref hm), (1, .ref ha), (2, .int (nI b))]) hx hb d_Mk_putChains_53 hl rfl (by decide) (by decide) rfl (fun ls hl => ?_)
            refine lv_goto (tgt := 9) hx hb d_Mk_putChains_56 (by decide) ?_
            refine lv_iload hx hb d_Mk_putChains_9 (lv_at hl 0 rfl) ?_
            refine lv_bipush (v := (nI 6)) hx hb d_Mk_putChains_11 (by decide) ?_
            refine nb_ge (tgt := 59) hx hb d_Mk_putChains_13 (by decide) (by decide) (by decide) (fun h_6 => ?_) (fun h_6 => ?_)
            · exact absurd h_6 (by decide)
            · refine lv_aload_n hx hb d_Mk_putChains_16 rfl (lv_at hl 3 rfl) ?_
              refine va_get (D := (dC, dI)) (ci := 1) (v := .int sc) (C := R_Mk) (T := F_Mk) (N := 3) hx hb hts in_Mk hown hK hP 0 rfl rfl 0 (by decide) (hts _ kw_76) (fun _ h9 => h9) rfl d_Mk_putChains_17 ?_
              refine lv_aload_n hx hb d_Mk_putChains_20 rfl (lv_at hl 3 rfl) ?_
              refine va_get (D := (dC, dI)) (ci := 1) (v := .int (nI nk)) (C := R_Mk) (T := F_Mk) (N := 3) hx hb hts in_Mk hown hK hP 0 rfl rfl 2 (by decide) (hts _ kw_78) (fun _ h9 => h9) rfl d_Mk_putChains_21 ?_
              refine lv_iload hx hb d_Mk_putChains_24 (lv_at hl 0 rfl) ?_
              refine pr_call (va_runS (As := [.int sc, .int (nI nk), .int (nI 5)]) (rest := []) ⟨hx, hb, hml, hown, hts⟩ (c_Mk_chainStart l dC dI cI (sc := sc) (q := nk) (ch := 5) ) ⟨callB_of 3 hts (gd kw_63) rfl rfl rfl (hts _ kw_36) (hts _ kw_61) (by decide +kernel) ⟨Nat.le_of_ble_eq_true rfl, Nat.le_of_ble_eq_true rfl⟩, (hts _ kw_62)⟩ ⟨fun a U g mk q => by obtain ⟨q0, qP, qK⟩ := q; exact ⟨q0, qP, qK.call⟩, fun U hU hW => ⟨rfl, by rw [hU]; exact hP.sub [] rfl, hKN.warm hW⟩⟩ rfl rfl hl.1 rfl (lv_room (Nat.le_of_ble_eq_true rfl)) d_Mk_putChains_26 ⟨Nat.zero_le _, Nat.zero_le _⟩) ?_
              refine lv_istore (lv' := [(5, .int (cs sc nk 5)), (4, .int (nI 5)), (3, .int (ms4 (fun i => f (b + i)))), (0, .ref hm), (1, .ref ha), (2, .int (nI b))]) hx hb d_Mk_putChains_29 hl (by decide) rfl (fun ls hl => ?_)
              refine lv_aload_n hx hb d_Mk_putChains_31 rfl (lv_at hl 4 rfl) ?_
              refine lv_iload_n hx hb d_Mk_putChains_32 rfl (lv_at hl 5 rfl) ?_
              refine lv_iconst (v := (nI 5)) hx hb d_Mk_putChains_33 (by decide) ?_
              refine lv_iadd hx hb d_Mk_putChains_34 ?_
              refine tp (nI_add _ _) ?_
              refine lv_iload hx hb d_Mk_putChains_35 (lv_at hl 1 rfl) ?_
              refine lv_iadd hx hb d_Mk_putChains_37 ?_
              refine tp (y := (nI (b + 10))) (nI_add _ _) ?_
              refine lv_iload hx hb d_Mk_putChains_38 (lv_at hl 0 rfl) ?_
              refine lv_iload hx hb d_Mk_putChains_40 (lv_at hl 1 rfl) ?_
              refine lv_iconst (v := (nI 0)) hx hb d_Mk_putChains_42 (by decide) ?_
              refine lv_iload_n hx hb d_Mk_putChains_43 rfl (lv_at hl 2 rfl) ?_
              refine lv_iload hx hb d_Mk_putChains_44 (lv_at hl 1 rfl) ?_
              refine pr_call (va_runS (As := [.int (ms4 (fun i => f (b + i))), .int (nI 5)]) (rest := [.int (nI 0), .int (nI 5), .int (cs sc nk 5), .int (nI (b + 10)), .ref ha]) ⟨hx, hb, hml, hown, hts⟩ (c_Sg_digit l dC dI cI (mm := ms4 (fun i => f (b + i))) (ch := 5) (hch := (by omega))) ⟨callB_of 2 hts (gd kw_107) rfl rfl rfl (hts _ kw_37) (hts _ kw_105) (by decide +kernel) ⟨Nat.le_of_ble_eq_true rfl, Nat.le_of_ble_eq_true rfl⟩, (hts _ kw_106)⟩ ⟨fun a U g mk q => by obtain ⟨q0, qP, qK⟩ := q; exact ⟨q0, qP, qK.call⟩, fun U hU hW => ⟨rfl, by rw [hU]; exact hP.sub [] rfl, hKN.warm hW⟩⟩ rfl rfl hl.1 rfl (lv_room (Nat.le_of_ble_eq_true rfl)) d_Mk_putChains_46 ⟨Nat.zero_le _, Nat.zero_le _⟩) ?_
              refine pr_call (va_runS (As := [.int (cs sc nk 5), .int (nI 5), .int (nI 0), .int (nI (dgt (ms4 (fun i => f (b + i))) 5))]) (rest := [.int (nI (b + 10)), .ref ha]) ⟨hx, hb, hml, hown, hts⟩ (c_Sg_walk l dC dI cI (x := cs sc nk 5) (ch := 5) (fr := 0) (to := dgt (ms4 (fun i => f (b + i))) 5) (hfr := (by first | omega | exact dgt_le _ _)) (hto := (by first | omega | exact dgt_le _ _))) ⟨callB_of 4 hts (gd kw_71) rfl rfl rfl (hts _ kw_37) (hts _ kw_69) (by decide +kernel) ⟨Nat.le_of_ble_eq_true rfl, Nat.le_of_ble_eq_true rfl⟩, (hts _ kw_70)⟩ ⟨fun a U g mk q => by obtain ⟨q0, qP, qK⟩ := q; exact ⟨q0, qP, qK.call⟩, fun U hU hW => ⟨rfl, by rw [hU]; exact hP.sub [] rfl, hKN.warm hW⟩⟩ rfl rfl hl.1 rfl (lv_room (Nat.le_of_ble_eq_true rfl)) d_Mk_putChains_49 ⟨Nat.zero_le _, Nat.zero_le _⟩) ?_
              refine ar_st (k := b + 10) hx hb hK hP hD hS 1 0 rfl rfl (by omega) (by first | decide | omega) d_Mk_putChains_52 (fun H locs hP hD hS => ?_)
              have hP : va_P (dC, dI) classes [(hm, .inr (1, [.int sc, .ref hn, .int (nI nk)])), (ha, .inl (cI, N, .inl (upd (upd (upd (upd (upd (upd f (b + 5) (al 0 ((dgt (ms4 (fun i => f (b + i))) 0) - 0) 0 (cs sc nk 0))) (b + 6) (al 1 ((dgt (ms4 (fun i => f (b + i))) 1) - 0) 0 (cs sc nk 1))) (b + 7) (al 2 ((dgt (ms4 (fun i => f (b + i))) 2) - 0) 0 (cs sc nk 2))) (b + 8) (al 3 ((dgt (ms4 (fun i => f (b + i))) 3) - 0) 0 (cs sc nk 3))) (b + 9) (al 4 ((dgt (ms4 (fun i => f (b + i))) 4) - 0) 0 (cs sc nk 4))) (b + 10) (al 5 ((dgt (ms4 (fun i => f (b + i))) 5) - 0) 0 (cs sc nk 5)))))] H := hP
              have hD : va_D A [(hm, .inr (1, [.int sc, .ref hn, .int (nI nk)])), (ha, .inl (cI, N, .inl (upd (upd (upd (upd (upd (upd f (b + 5) (al 0 ((dgt (ms4 (fun i => f (b + i))) 0) - 0) 0 (cs sc nk 0))) (b + 6) (al 1 ((dgt (ms4 (fun i => f (b + i))) 1) - 0) 0 (cs sc nk 1))) (b + 7) (al 2 ((dgt (ms4 (fun i => f (b + i))) 2) - 0) 0 (cs sc nk 2))) (b + 8) (al 3 ((dgt (ms4 (fun i => f (b + i))) 3) - 0) 0 (cs sc nk 3))) (b + 9) (al 4 ((dgt (ms4 (fun i => f (b + i))) 4) - 0) 0 (cs sc nk 4))) (b + 10) (al 5 ((dgt (ms4 (fun i => f (b + i))) 5) - 0) 0 (cs sc nk 5)))))] := hD
              refine lv_iinc (k := 1) (v := (nI 6)) (lv' := [(4, .int (nI 6)), (5, .int (cs sc nk 5)), (3, .int (ms4 (fun i => f (b + i)))), (0, .ref hm), (1, .ref ha), (2, .int (nI b))]) hx hb d_Mk_putChains_53 hl rfl (by decide) (by decide) rfl (fun ls hl => ?_)
              refine lv_goto (tgt := 9) hx hb d_Mk_putChains_56 (by decide) ?_
              refine lv_iload hx hb d_Mk_putChains_9 (lv_at hl 0 rfl) ?_
              refine lv_bipush (v := (nI 6)) hx hb d_Mk_putChains_11 (by decide) ?_
              refine nb_ge (tgt := 59) hx hb d_Mk_putChains_13 (by decide) (by decide) (by decide) (fun h_7 => ?_) (fun h_7 => ?_)
              · exact W.vret hx hb hr (fun t ht hW => ⟨⟨(upd (upd (upd (upd (upd (upd f (b + 5) (al 0 ((dgt (ms4 (fun i => f (b + i))) 0) - 0) 0 (cs sc nk 0))) (b + 6) (al 1 ((dgt (ms4 (fun i => f (b + i))) 1) - 0) 0 (cs sc nk 1))) (b + 7) (al 2 ((dgt (ms4 (fun i => f (b + i))) 2) - 0) 0 (cs sc nk 2))) (b + 8) (al 3 ((dgt (ms4 (fun i => f (b + i))) 3) - 0) 0 (cs sc nk 3))) (b + 9) (al 4 ((dgt (ms4 (fun i => f (b + i))) 4) - 0) 0 (cs sc nk 4))) (b + 10) (al 5 ((dgt (ms4 (fun i => f (b + i))) 5) - 0) 0 (cs sc nk 5))), rfl, (by first | rfl | (simp only []; done) | (simp only []; rfl) | (simp []; done)), by rw [ht]; exact hP, hD⟩, hS.F ht⟩) hS.2.2 d_Mk_putChains_59
              · exact absurd h_7 (by decide)
set_option maxHeartbeats 4000000 in
set_option maxRecDepth 100000 in
theorem c_Mk_putPath (l : Launch) (dC : Nat → ClassId) (dI : Nat → Nat → Nat) (cI : ClassId) (hm : Nat) (ha : Nat) (b : Nat) (sc : Int32) (hn : Nat) (nk : Nat) (nd : Nat → Int32) (N : Nat) (f : Nat → Int32) (hN : N < 2 ^ 31) (hbN : b + 17 ≤ N) (hnk : nk < 8) (sz : Nat) : Met l y_Mk_putPath w_Mk_putPath ({ frames := 0, cells := 0, slots := 0, locals := 0 }) (va_Pc [.ref hm, .ref ha, .int (nI b)] (fun U => U.heap.size = sz ∧ va_P (dC, dI) classes [(hm, .inr (1, [.int sc, .ref hn, .int (nI nk)])), (hn, .inl (cI, 16, .inl nd)), (ha, .inl (cI, N, .inl f))] U.heap ∧ KN dC dI cI U ∧ va_D (fun _ => True) [(hm, .inr (1, [.int sc, .ref hn, .int (nI nk)])), (hn, .inl (cI, 16, .inl nd)), (ha, .inl (cI, N, .inl f))])) (va_Qv (fun u : (Nat → Int32) => putPa nd nk b f = u) (fun (u : (Nat → Int32)) t => va_P (dC, dI) classes [(hm, .inr (1, [.int sc, .ref hn, .int (nI nk)])), (hn, .inl (cI, 16, .inl nd)), (ha, .inl (cI, N, .inl u))] t.heap ∧ va_D (va_A [(hm, .inr (1, [.int sc, .ref hn, .int (nI nk)])), (hn, .inl (cI, 16, .inl nd)), (ha, .inl (cI, N, .inl f))] sz) [(hm, .inr (1, [.int sc, .ref hn, .int (nI nk)])), (hn, .inl (cI, 16, .inl nd)), (ha, .inl (cI, N, .inl u))]) (va_A [(hm, .inr (1, [.int sc, .ref hn, .int (nI nk)])), (hn, .inl (cI, 16, .inl nd)), (ha, .inl (cI, N, .inl f))] sz)) 0 0 (va_A [(hm, .inr (1, [.int sc, .ref hn, .int (nI nk)])), (hn, .inl (cI, 16, .inl nd)), (ha, .inl (cI, N, .inl f))] sz) := by
  refine Met.ofW (cc := b_Mk_putPath) (maxL := 5) (ret := none) (by decide) rfl ?_
  intro p e s m args below meth c s₁ B hml hv
  obtain ⟨rfl, hsz, hP, hKN, hD0⟩ := hv
  have hK := hKN.1
  have hx := B.exec
  have hb := B.bytes
  have hr := B.returns
  have hts := fun (w : Cond) (h : w ∈ gt) => atoms_spec (ws := w_Mk_putPath) B.pre w (List.mem_cons_of_mem _ h)
  have hown : s.vm.findClass R_Mk = some m.cls := findClass_of_methodNamed B.named
  have hlocks := B.notSynchronized
  subst hsz
  have hD := hD0.self (sz := s.heap.size)
  generalize hAe : va_A [(hm, .inr (1, [.int sc, .ref hn, .int (nI nk)])), (hn, .inl (cI, 16, .inl nd)), (ha, .inl (cI, N, .inl f))] s.heap.size = A at hD ⊢
  have hA : ∀ q : Nat, s.heap.size ≤ q → A q := fun q h => by rw [← hAe]; exact Or.inr h
  have hS : va_S A s.heap s.heap [] := va_S.rf
  have hP : va_P (dC, dI) classes [(hm, .inr (1, [.int sc, .ref hn, .int (nI nk)])), (hn, .inl (cI, 16, .inl nd)), (ha, .inl (cI, N, .inl f))] s.heap := hP
  clear hAe hD0
  have hl := lv_entry ([.ref hm, .ref ha, .int (nI b)]) (n := 5) (Nat.le_of_ble_eq_true rfl)
  rw [lg_entry_eq]
  generalize (lg_sl ([.ref hm, .ref ha, .int (nI b)]) ++ List.replicate (5 - (lg_sl ([.ref hm, .ref ha, .int (nI b)])).length) Slot.unset).toArray = ls at hl ⊢
  have hl : lv_has ls 5 [(0, .ref hm), (1, .ref ha), (2, .int (nI b))] := hl
  refine lv_bipush (v := (nI 8)) hx hb d_Mk_putPath_0 (by decide) ?_
  refine lv_aload_n hx hb d_Mk_putPath_2 rfl (lv_at hl 0 rfl) ?_
  refine va_get (D := (dC, dI)) (ci := 1) (v := .int (nI nk)) (C := R_Mk) (T := F_Mk) (N := 3) hx hb hts in_Mk hown hK hP 0 rfl rfl 2 (by decide) (hts _ kw_78) (fun _ h9 => h9) rfl d_Mk_putPath_3 ?_
  refine lv_iadd hx hb d_Mk_putPath_6 ?_
  refine tp (nI_add _ _) ?_
  refine lv_istore_n (lv' := [(3, .int (nI (8 + nk))), (0, .ref hm), (1, .ref ha), (2, .int (nI b))]) hx hb d_Mk_putPath_7 rfl hl (by decide) rfl (fun ls hl => ?_)
  refine lv_iconst (v := (nI 0)) hx hb d_Mk_putPath_8 (by decide) ?_
  refine lv_istore (lv' := [(4, .int (nI 0)), (3, .int (nI (8 + nk))), (0, .ref hm), (1, .ref ha), (2, .int (nI b))]) hx hb d_Mk_putPath_9 hl (by decide) rfl (fun ls hl => ?_)
  refine lv_iload hx hb d_Mk_putPath_11 (lv_at hl 0 rfl) ?_
  refine lv_iconst (v := (nI 3)) hx hb d_Mk_putPath_13 (by decide) ?_
  refine nb_ge (tgt := 44) hx hb d_Mk_putPath_14 (by decide) (by decide) (by decide) (fun h_1 => ?_) (fun h_1 => ?_)
  · exact absurd h_1 (by decide)
  · refine lv_aload_n hx hb d_Mk_putPath_17 rfl (lv_at hl 3 rfl) ?_
    refine lv_iload_n hx hb d_Mk_putPath_18 rfl (lv_at hl 4 rfl) ?_
    refine lv_bipush (v := (nI 11)) hx hb d_Mk_putPath_19 (by decide) ?_
    refine lv_iadd hx hb d_Mk_putPath_21 ?_
    refine tp (nI_add _ _) ?_
    refine lv_iload hx hb d_Mk_putPath_22 (lv_at hl 0 rfl) ?_
    refine lv_iadd hx hb d_Mk_putPath_24 ?_
    refine tp (y := (nI (b + 11))) (nI_add _ _) ?_
    refine lv_aload_n hx hb d_Mk_putPath_25 rfl (lv_at hl 2 rfl) ?_
    refine va_get (D := (dC, dI)) (ci := 1) (v := .ref hn) (C := R_Mk) (T := F_Mk) (N := 3) hx hb hts in_Mk hown hK hP 0 rfl rfl 1 (by decide) (hts _ kw_77) (fun _ h9 => h9) rfl d_Mk_putPath_26 ?_
    refine lv_iload_n hx hb d_Mk_putPath_29 rfl (lv_at hl 1 rfl) ?_
    refine lv_iconst (v := (nI 1)) hx hb d_Mk_putPath_30 (by decide) ?_
    refine lv_ixor hx hb d_Mk_putPath_31 ?_
    refine tp (sib_eq (n := 8 + nk) (by omega)) ?_
    refine ar_ld (k := sib (8 + nk)) hx hb hK hP 1 0 rfl rfl (by exact sib_lt (by omega)) (by first | decide | omega) d_Mk_putPath_32 ?_
    refine ar_st (k := b + 11) hx hb hK hP hD hS 2 0 rfl rfl (by omega) (by first | decide | omega) d_Mk_putPath_33 (fun H locs hP hD hS => ?_)
    have hP : va_P (dC, dI) classes [(hm, .inr (1, [.int sc, .ref hn, .int (nI nk)])), (hn, .inl (cI, 16, .inl nd)), (ha, .inl (cI, N, .inl (upd f (b + 11) (nd (sib (8 + nk))))))] H := hP
    have hD : va_D A [(hm, .inr (1, [.int sc, .ref hn, .int (nI nk)])), (hn, .inl (cI, 16, .inl nd)), (ha, .inl (cI, N, .inl (upd f (b + 11) (nd (sib (8 + nk))))))] := hD
    refine lv_iload_n hx hb d_Mk_putPath_34 rfl (lv_at hl 1 rfl) ?_
    refine lv_iconst (v := (nI 2)) hx hb d_Mk_putPath_35 (by decide) ?_
    refine lv_idiv hx hb d_Mk_putPath_36 (by decide) ?_
    refine tp (pk_div (by omega) (by decide) (by decide)) ?_
    refine lv_istore_n (lv' := [(3, .int (nI ((8 + nk) / 2))), (4, .int (nI 0)), (0, .ref hm), (1, .ref ha), (2, .int (nI b))]) hx hb d_Mk_putPath_37 rfl hl (by decide) rfl (fun ls hl => ?_)
    refine lv_iinc (k := 1) (v := (nI 1)) (lv' := [(4, .int (nI 1)), (3, .int (nI ((8 + nk) / 2))), (0, .ref hm), (1, .ref ha), (2, .int (nI b))]) hx hb d_Mk_putPath_38 hl rfl (by decide) (by decide) rfl (fun ls hl => ?_)
    refine lv_goto (tgt := 11) hx hb d_Mk_putPath_41 (by decide) ?_
    refine lv_iload hx hb d_Mk_putPath_11 (lv_at hl 0 rfl) ?_
    refine lv_iconst (v := (nI 3)) hx hb d_Mk_putPath_13 (by decide) ?_
    refine nb_ge (tgt := 44) hx hb d_Mk_putPath_14 (by decide) (by decide) (by decide) (fun h_2 => ?_) (fun h_2 => ?_)
    · exact absurd h_2 (by decide)
    · refine lv_aload_n hx hb d_Mk_putPath_17 rfl (lv_at hl 3 rfl) ?_
      refine lv_iload_n hx hb d_Mk_putPath_18 rfl (lv_at hl 4 rfl) ?_
      refine lv_bipush (v := (nI 11)) hx hb d_Mk_putPath_19 (by decide) ?_
      refine lv_iadd hx hb d_Mk_putPath_21 ?_
      refine tp (nI_add _ _) ?_
      refine lv_iload hx hb d_Mk_putPath_22 (lv_at hl 0 rfl) ?_
      refine lv_iadd hx hb d_Mk_putPath_24 ?_
      refine tp (y := (nI (b + 12))) (nI_add _ _) ?_
      refine lv_aload_n hx hb d_Mk_putPath_25 rfl (lv_at hl 2 rfl) ?_
      refine va_get (D := (dC, dI)) (ci := 1) (v := .ref hn) (C := R_Mk) (T := F_Mk) (N := 3) hx hb hts in_Mk hown hK hP 0 rfl rfl 1 (by decide) (hts _ kw_77) (fun _ h9 => h9) rfl d_Mk_putPath_26 ?_
      refine lv_iload_n hx hb d_Mk_putPath_29 rfl (lv_at hl 1 rfl) ?_
      refine lv_iconst (v := (nI 1)) hx hb d_Mk_putPath_30 (by decide) ?_
      refine lv_ixor hx hb d_Mk_putPath_31 ?_
      refine tp (sib_eq (n := (8 + nk) / 2) (by omega)) ?_
      refine ar_ld (k := sib ((8 + nk) / 2)) hx hb hK hP 1 0 rfl rfl (by exact sib_lt (by omega)) (by first | decide | omega) d_Mk_putPath_32 ?_
      refine ar_st (k := b + 12) hx hb hK hP hD hS 2 0 rfl rfl (by omega) (by first | decide | omega) d_Mk_putPath_33 (fun H locs hP hD hS => ?_)
      have hP : va_P (dC, dI) classes [(hm, .inr (1, [.int sc, .ref hn, .int (nI nk)])), (hn, .inl (cI, 16, .inl nd)), (ha, .inl (cI, N, .inl (upd (upd f (b + 11) (nd (sib (8 + nk)))) (b + 12) (nd (sib ((8 + nk) / 2))))))] H := hP
      have hD : va_D A [(hm, .inr (1, [.int sc, .ref hn, .int (nI nk)])), (hn, .inl (cI, 16, .inl nd)), (ha, .inl (cI, N, .inl (upd (upd f (b + 11) (nd (sib (8 + nk)))) (b + 12) (nd (sib ((8 + nk) / 2))))))] := hD
      refine lv_iload_n hx hb d_Mk_putPath_34 rfl (lv_at hl 1 rfl) ?_
      refine lv_iconst (v := (nI 2)) hx hb d_Mk_putPath_35 (by decide) ?_
      refine lv_idiv hx hb d_Mk_putPath_36 (by decide) ?_
      refine tp (pk_div (by omega) (by decide) (by decide)) ?_
      refine lv_istore_n (lv' := [(3, .int (nI (((8 + nk) / 2) / 2))), (4, .int (nI 1)), (0, .ref hm), (1, .ref ha), (2, .int (nI b))]) hx hb d_Mk_putPath_37 rfl hl (by decide) rfl (fun ls hl => ?_)
      refine lv_iinc (k := 1) (v := (nI 2)) (lv' := [(4, .int (nI 2)), (3, .int (nI (((8 + nk) / 2) / 2))), (0, .ref hm), (1, .ref ha), (2, .int (nI b))]) hx hb d_Mk_putPath_38 hl rfl (by decide) (by decide) rfl (fun ls hl => ?_)
      refine lv_goto (tgt := 11) hx hb d_Mk_putPath_41 (by decide) ?_
      refine lv_iload hx hb d_Mk_putPath_11 (lv_at hl 0 rfl) ?_
      refine lv_iconst (v := (nI 3)) hx hb d_Mk_putPath_13 (by decide) ?_
      refine nb_ge (tgt := 44) hx hb d_Mk_putPath_14 (by decide) (by decide) (by decide) (fun h_3 => ?_) (fun h_3 => ?_)
      · exact absurd h_3 (by decide)
      · refine lv_aload_n hx hb d_Mk_putPath_17 rfl (lv_at hl 3 rfl) ?_
        refine lv_iload_n hx hb d_Mk_putPath_18 rfl (lv_at hl 4 rfl) ?_
        refine lv_bipush (v := (nI 11)) hx hb d_Mk_putPath_19 (by decide) ?_
        refine lv_iadd hx hb d_Mk_putPath_21 ?_
        refine tp (nI_add _ _) ?_
        refine lv_iload hx hb d_Mk_putPath_22 (lv_at hl 0 rfl) ?_
        refine lv_iadd hx hb d_Mk_putPath_24 ?_
        refine tp (y := (nI (b + 13))) (nI_add _ _) ?_
        refine lv_aload_n hx hb d_Mk_putPath_25 rfl (lv_at hl 2 rfl) ?_
        refine va_get (D := (dC, dI)) (ci := 1) (v := .ref hn) (C := R_Mk) (T := F_Mk) (N := 3) hx hb hts in_Mk hown hK hP 0 rfl rfl 1 (by decide) (hts _ kw_77) (fun _ h9 => h9) rfl d_Mk_putPath_26 ?_
        refine lv_iload_n hx hb d_Mk_putPath_29 rfl (lv_at hl 1 rfl) ?_
        refine lv_iconst (v := (nI 1)) hx hb d_Mk_putPath_30 (by decide) ?_
        refine lv_ixor hx hb d_Mk_putPath_31 ?_
        refine tp (sib_eq (n := ((8 + nk) / 2) / 2) (by omega)) ?_
        refine ar_ld (k := sib (((8 + nk) / 2) / 2)) hx hb hK hP 1 0 rfl rfl (by exact sib_lt (by omega)) (by first | decide | omega) d_Mk_putPath_32 ?_
        refine ar_st (k := b + 13) hx hb hK hP hD hS 2 0 rfl rfl (by omega) (by first | decide | omega) d_Mk_putPath_33 (fun H locs hP hD hS => ?_)
        have hP : va_P (dC, dI) classes [(hm, .inr (1, [.int sc, .ref hn, .int (nI nk)])), (hn, .inl (cI, 16, .inl nd)), (ha, .inl (cI, N, .inl (upd (upd (upd f (b + 11) (nd (sib (8 + nk)))) (b + 12) (nd (sib ((8 + nk) / 2)))) (b + 13) (nd (sib (((8 + nk) / 2) / 2))))))] H := hP
        have hD : va_D A [(hm, .inr (1, [.int sc, .ref hn, .int (nI nk)])), (hn, .inl (cI, 16, .inl nd)), (ha, .inl (cI, N, .inl (upd (upd (upd f (b + 11) (nd (sib (8 + nk)))) (b + 12) (nd (sib ((8 + nk) / 2)))) (b + 13) (nd (sib (((8 + nk) / 2) / 2))))))] := hD
        refine lv_iload_n hx hb d_Mk_putPath_34 rfl (lv_at hl 1 rfl) ?_
        refine lv_iconst (v := (nI 2)) hx hb d_Mk_putPath_35 (by decide) ?_
        refine lv_idiv hx hb d_Mk_putPath_36 (by decide) ?_
        refine tp (pk_div (by omega) (by decide) (by decide)) ?_
        refine lv_istore_n (lv' := [(3, .int (nI ((((8 + nk) / 2) / 2) / 2))), (4, .int (nI 2)), (0, .ref hm), (1, .ref ha), (2, .int (nI b))]) hx hb d_Mk_putPath_37 rfl hl (by decide) rfl (fun ls hl => ?_)
        refine lv_iinc (k := 1) (v := (nI 3)) (lv' := [(4, .int (nI 3)), (3, .int (nI ((((8 + nk) / 2) / 2) / 2))), (0, .ref hm), (1, .ref ha), (2, .int (nI b))]) hx hb d_Mk_putPath_38 hl rfl (by decide) (by decide) rfl (fun ls hl => ?_)
        refine lv_goto (tgt := 11) hx hb d_Mk_putPath_41 (by decide) ?_
        refine lv_iload hx hb d_Mk_putPath_11 (lv_at hl 0 rfl) ?_
        refine lv_iconst (v := (nI 3)) hx hb d_Mk_putPath_13 (by decide) ?_
        refine nb_ge (tgt := 44) hx hb d_Mk_putPath_14 (by decide) (by decide) (by decide) (fun h_4 => ?_) (fun h_4 => ?_)
        · exact W.vret hx hb hr (fun t ht hW => ⟨⟨(upd (upd (upd f (b + 11) (nd (sib (8 + nk)))) (b + 12) (nd (sib ((8 + nk) / 2)))) (b + 13) (nd (sib (((8 + nk) / 2) / 2)))), rfl, (by first | rfl | (simp only []; done) | (simp only []; rfl) | (simp []; done)), by rw [ht]; exact hP, hD⟩, hS.F ht⟩) hS.2.2 d_Mk_putPath_44
        · exact absurd h_4 (by decide)
set_option maxHeartbeats 4000000 in
set_option maxRecDepth 100000 in
theorem c_Mk_pack (l : Launch) (dC : Nat → ClassId) (dI : Nat → Nat → Nat) (cI : ClassId) (hm : Nat) (ha : Nat) (b : Nat) (ve : Int32) (a0 : Int32) (a1 : Int32) (a2 : Int32) (sc : Int32) (hn : Nat) (nk : Nat) (nd : Nat → Int32) (N : Nat) (f : Nat → Int32) (hN : N < 2 ^ 31) (hbN : b + 17 ≤ N) (hnk : nk < 8) (sz : Nat) : Met l y_Mk_pack w_Mk_pack ({ frames := 3, cells := 0, slots := 0, locals := 72 }) (va_Pc [.ref hm, .ref ha, .int (nI b), .int ve, .int a0, .int a1, .int a2] (fun U => U.heap.size = sz ∧ va_P (dC, dI) classes [(hm, .inr (1, [.int sc, .ref hn, .int (nI nk)])), (hn, .inl (cI, 16, .inl nd)), (ha, .inl (cI, N, .inl f))] U.heap ∧ KN dC dI cI U ∧ va_D (fun _ => True) [(hm, .inr (1, [.int sc, .ref hn, .int (nI nk)])), (hn, .inl (cI, 16, .inl nd)), (ha, .inl (cI, N, .inl f))])) (va_Qv (fun u : Nat × (Nat → Int32) => pk17 sc nd nk b ve a0 a1 a2 f = u) (fun (u : Nat × (Nat → Int32)) t => va_P (dC, dI) classes [(hm, .inr (1, [.int sc, .ref hn, .int (nI u.1)])), (hn, .inl (cI, 16, .inl nd)), (ha, .inl (cI, N, .inl u.2))] t.heap ∧ va_D (va_A [(hm, .inr (1, [.int sc, .ref hn, .int (nI nk)])), (hn, .inl (cI, 16, .inl nd)), (ha, .inl (cI, N, .inl f))] sz) [(hm, .inr (1, [.int sc, .ref hn, .int (nI u.1)])), (hn, .inl (cI, 16, .inl nd)), (ha, .inl (cI, N, .inl u.2))]) (va_A [(hm, .inr (1, [.int sc, .ref hn, .int (nI nk)])), (hn, .inl (cI, 16, .inl nd)), (ha, .inl (cI, N, .inl f))] sz)) 0 0 (va_A [(hm, .inr (1, [.int sc, .ref hn, .int (nI nk)])), (hn, .inl (cI, 16, .inl nd)), (ha, .inl (cI, N, .inl f))] sz) := by
  refine Met.ofW (cc := b_Mk_pack) (maxL := 7) (ret := none) (by decide) rfl ?_
  intro p e s m args below meth c s₁ B hml hv
  obtain ⟨rfl, hsz, hP, hKN, hD0⟩ := hv
  have hK := hKN.1
  have hx := B.exec
  have hb := B.bytes
  have hr := B.returns
  have hts := fun (w : Cond) (h : w ∈ gt) => atoms_spec (ws := w_Mk_pack) B.pre w (List.mem_cons_of_mem _ h)
  have hown : s.vm.findClass R_Mk = some m.cls := findClass_of_methodNamed B.named
  have hlocks := B.notSynchronized
  subst hsz
  have hD := hD0.self (sz := s.heap.size)
  generalize hAe : va_A [(hm, .inr (1, [.int sc, .ref hn, .int (nI nk)])), (hn, .inl (cI, 16, .inl nd)), (ha, .inl (cI, N, .inl f))] s.heap.size = A at hD ⊢
  have hA : ∀ q : Nat, s.heap.size ≤ q → A q := fun q h => by rw [← hAe]; exact Or.inr h
  have hS : va_S A s.heap s.heap [] := va_S.rf
  have hP : va_P (dC, dI) classes [(hm, .inr (1, [.int sc, .ref hn, .int (nI nk)])), (hn, .inl (cI, 16, .inl nd)), (ha, .inl (cI, N, .inl f))] s.heap := hP
  clear hAe hD0
  have hl := lv_entry ([.ref hm, .ref ha, .int (nI b), .int ve, .int a0, .int a1, .int a2]) (n := 7) (Nat.le_of_ble_eq_true rfl)
  rw [lg_entry_eq]
  generalize (lg_sl ([.ref hm, .ref ha, .int (nI b), .int ve, .int a0, .int a1, .int a2]) ++ List.replicate (7 - (lg_sl ([.ref hm, .ref ha, .int (nI b), .int ve, .int a0, .int a1, .int a2])).length) Slot.unset).toArray = ls at hl ⊢
  have hl : lv_has ls 7 [(0, .ref hm), (1, .ref ha), (2, .int (nI b)), (3, .int ve), (4, .int a0), (5, .int a1), (6, .int a2)] := hl
  refine lv_aload_n hx hb d_Mk_pack_0 rfl (lv_at hl 1 rfl) ?_
  refine lv_iload_n hx hb d_Mk_pack_1 rfl (lv_at hl 2 rfl) ?_
  refine lv_iload_n hx hb d_Mk_pack_2 rfl (lv_at hl 3 rfl) ?_
  refine ar_st (k := b) hx hb hK hP hD hS 2 0 rfl rfl (by omega) (by first | decide | omega) d_Mk_pack_3 (fun H locs hP hD hS => ?_)
  have hP : va_P (dC, dI) classes [(hm, .inr (1, [.int sc, .ref hn, .int (nI nk)])), (hn, .inl (cI, 16, .inl nd)), (ha, .inl (cI, N, .inl (upd f b ve)))] H := hP
  have hD : va_D A [(hm, .inr (1, [.int sc, .ref hn, .int (nI nk)])), (hn, .inl (cI, 16, .inl nd)), (ha, .inl (cI, N, .inl (upd f b ve)))] := hD
  refine lv_aload_n hx hb d_Mk_pack_4 rfl (lv_at hl 1 rfl) ?_
  refine lv_iload_n hx hb d_Mk_pack_5 rfl (lv_at hl 2 rfl) ?_
  refine lv_iconst (v := (nI 0)) hx hb d_Mk_pack_6 (by decide) ?_
  refine lv_iload hx hb d_Mk_pack_7 (lv_at hl 4 rfl) ?_
  have hPc := hP.sub (ws' := [(ha, .inl (cI, N, .inl (upd f b ve)))]) [2] rfl
  have hDc := hD.sub (ws' := [(ha, .inl (cI, N, .inl (upd f b ve)))]) [2] (by decide) rfl
  have hFc := va_free (wc := [(ha, .inl (cI, N, .inl (upd f b ve)))]) hD hS hA [2] rfl
  refine va_callv (va_runS (As := [.ref ha, .int (nI b), .int (nI 0), .int a0]) (rest := []) ⟨hx, hb, hml, hown, hts⟩ (c_PW_putStage l dC dI cI (ha := ha) (b := b) (k := 0) (im := a0) (N := N) (f := upd f b ve) (hN := (by omega)) (hbN := (by omega)) (hk := (by omega)) (sz := H.size)) ⟨callB_of 4 hts (gd kw_93) rfl rfl rfl (hts _ kw_38) (hts _ kw_91) (by decide +kernel) ⟨Nat.le_of_ble_eq_true rfl, Nat.le_of_ble_eq_true rfl⟩, (hts _ kw_92)⟩ ⟨fun a U g mk q => by obtain ⟨q0, q1, qP, qK, qD⟩ := q; exact ⟨q0, q1, qP, qK.call, qD⟩, fun U hU hW => ⟨rfl, by rw [hU], by rw [hU]; exact hPc, hKN.warm hW, hDc.weaken (fun _ _ _ _ => trivial)⟩⟩ rfl rfl hl.1 rfl (lv_room (Nat.le_of_ble_eq_true rfl)) d_Mk_pack_9 ⟨Nat.zero_le _, Nat.zero_le _⟩) hS (fun q _ h => hFc q h) hFc (fun u t H1 locs ht hvm hw hB hz1 hk1 hS => ?_)
  obtain ⟨f_1, rfl⟩ : ∃ z, z = u := ⟨_, rfl⟩
  have hu_1 := hw
  obtain ⟨hP1, hD1⟩ := hB
  rw [ht] at hP1
  have hP1 : va_P (dC, dI) classes [(ha, .inl (cI, N, .inl f_1))] H1 := hP1
  obtain ⟨hP, hD⟩ := va_join (wc := [(ha, .inl (cI, N, .inl (upd f b ve)))]) (wr := [(hm, .inr (1, [.int sc, .ref hn, .int (nI nk)])), (hn, .inl (cI, 16, .inl nd))]) (w1 := [(ha, .inl (cI, N, .inl f_1))]) hP hD [2] [0, 1] rfl rfl (by decide) (by decide) hk1 hFc hP1 hD1
  generalize H1 = H at hP hS ⊢
  have hP : va_P (dC, dI) classes [(hm, .inr (1, [.int sc, .ref hn, .int (nI nk)])), (hn, .inl (cI, 16, .inl nd)), (ha, .inl (cI, N, .inl f_1))] H := hP.sub [0, 1, 2] rfl
  have hD : va_D A [(hm, .inr (1, [.int sc, .ref hn, .int (nI nk)])), (hn, .inl (cI, 16, .inl nd)), (ha, .inl (cI, N, .inl f_1))] := hD.sub [0, 1, 2] (by decide) rfl
  clear hPc hDc hFc hP1 hD1 hk1 hz1 hvm ht
  refine lv_aload_n hx hb d_Mk_pack_12 rfl (lv_at hl 1 rfl) ?_
  refine lv_iload_n hx hb d_Mk_pack_13 rfl (lv_at hl 2 rfl) ?_
  refine lv_iconst (v := (nI 1)) hx hb d_Mk_pack_14 (by decide) ?_
  refine lv_iload hx hb d_Mk_pack_15 (lv_at hl 5 rfl) ?_
  have hPc := hP.sub (ws' := [(ha, .inl (cI, N, .inl f_1))]) [2] rfl
  have hDc := hD.sub (ws' := [(ha, .inl (cI, N, .inl f_1))]) [2] (by decide) rfl
  have hFc := va_free (wc := [(ha, .inl (cI, N, .inl f_1))]) hD hS hA [2] rfl
  refine va_callv (va_runS (As := [.ref ha, .int (nI b), .int (nI 1), .int a1]) (rest := []) ⟨hx, hb, hml, hown, hts⟩ (c_PW_putStage l dC dI cI (ha := ha) (b := b) (k := 1) (im := a1) (N := N) (f := f_1) (hN := (by omega)) (hbN := (by omega)) (hk := (by omega)) (sz := H.size)) ⟨callB_of 4 hts (gd kw_93) rfl rfl rfl (hts _ kw_38) (hts _ kw_91) (by decide +kernel) ⟨Nat.le_of_ble_eq_true rfl, Nat.le_of_ble_eq_true rfl⟩, (hts _ kw_92)⟩ ⟨fun a U g mk q => by obtain ⟨q0, q1, qP, qK, qD⟩ := q; exact ⟨q0, q1, qP, qK.call, qD⟩, fun U hU hW => ⟨rfl, by rw [hU], by rw [hU]; exact hPc, hKN.warm hW, hDc.weaken (fun _ _ _ _ => trivial)⟩⟩ rfl rfl hl.1 rfl (lv_room (Nat.le_of_ble_eq_true rfl)) d_Mk_pack_17 ⟨Nat.zero_le _, Nat.zero_le _⟩) hS (fun q _ h => hFc q h) hFc (fun u t H1 locs ht hvm hw hB hz1 hk1 hS => ?_)
  obtain ⟨f_2, rfl⟩ : ∃ z, z = u := ⟨_, rfl⟩
  have hu_2 := hw
  obtain ⟨hP1, hD1⟩ := hB
  rw [ht] at hP1
  have hP1 : va_P (dC, dI) classes [(ha, .inl (cI, N, .inl f_2))] H1 := hP1
  obtain ⟨hP, hD⟩ := va_join (wc := [(ha, .inl (cI, N, .inl f_1))]) (wr := [(hm, .inr (1, [.int sc, .ref hn, .int (nI nk)])), (hn, .inl (cI, 16, .inl nd))]) (w1 := [(ha, .inl (cI, N, .inl f_2))]) hP hD [2] [0, 1] rfl rfl (by decide) (by decide) hk1 hFc hP1 hD1
  generalize H1 = H at hP hS ⊢
  have hP : va_P (dC, dI) classes [(hm, .inr (1, [.int sc, .ref hn, .int (nI nk)])), (hn, .inl (cI, 16, .inl nd)), (ha, .inl (cI, N, .inl f_2))] H := hP.sub [0, 1, 2] rfl
  have hD : va_D A [(hm, .inr (1, [.int sc, .ref hn, .int (nI nk)])), (hn, .inl (cI, 16, .inl nd)), (ha, .inl (cI, N, .inl f_2))] := hD.sub [0, 1, 2] (by decide) rfl
  clear hPc hDc hFc hP1 hD1 hk1 hz1 hvm ht
  refine lv_aload_n hx hb d_Mk_pack_20 rfl (lv_at hl 1 rfl) ?_
  refine lv_iload_n hx hb d_Mk_pack_21 rfl (lv_at hl 2 rfl) ?_
  refine lv_iconst (v := (nI 2)) hx hb d_Mk_pack_22 (by decide) ?_
  refine lv_iload hx hb d_Mk_pack_23 (lv_at hl 6 rfl) ?_
  have hPc := hP.sub (ws' := [(ha, .inl (cI, N, .inl f_2))]) [2] rfl
  have hDc := hD.sub (ws' := [(ha, .inl (cI, N, .inl f_2))]) [2] (by decide) rfl
  have hFc := va_free (wc := [(ha, .inl (cI, N, .inl f_2))]) hD hS hA [2] rfl
  refine va_callv (va_runS (As := [.ref ha, .int (nI b), .int (nI 2), .int a2]) (rest := []) ⟨hx, hb, hml, hown, hts⟩ (c_PW_putStage l dC dI cI (ha := ha) (b := b) (k := 2) (im := a2) (N := N) (f := f_2) (hN := (by omega)) (hbN := (by omega)) (hk := (by omega)) (sz := H.size)) ⟨callB_of 4 hts (gd kw_93) rfl rfl rfl (hts _ kw_38) (hts _ kw_91) (by decide +kernel) ⟨Nat.le_of_ble_eq_true rfl, Nat.le_of_ble_eq_true rfl⟩, (hts _ kw_92)⟩ ⟨fun a U g mk q => by obtain ⟨q0, q1, qP, qK, qD⟩ := q; exact ⟨q0, q1, qP, qK.call, qD⟩, fun U hU hW => ⟨rfl, by rw [hU], by rw [hU]; exact hPc, hKN.warm hW, hDc.weaken (fun _ _ _ _ => trivial)⟩⟩ rfl rfl hl.1 rfl (lv_room (Nat.le_of_ble_eq_true rfl)) d_Mk_pack_25 ⟨Nat.zero_le _, Nat.zero_le _⟩) hS (fun q _ h => hFc q h) hFc (fun u t H1 locs ht hvm hw hB hz1 hk1 hS => ?_)
  obtain ⟨f_3, rfl⟩ : ∃ z, z = u := ⟨_, rfl⟩
  have hu_3 := hw
  obtain ⟨hP1, hD1⟩ := hB
  rw [ht] at hP1
  have hP1 : va_P (dC, dI) classes [(ha, .inl (cI, N, .inl f_3))] H1 := hP1
  obtain ⟨hP, hD⟩ := va_join (wc := [(ha, .inl (cI, N, .inl f_2))]) (wr := [(hm, .inr (1, [.int sc, .ref hn, .int (nI nk)])), (hn, .inl (cI, 16, .inl nd))]) (w1 := [(ha, .inl (cI, N, .inl f_3))]) hP hD [2] [0, 1] rfl rfl (by decide) (by decide) hk1 hFc hP1 hD1
  generalize H1 = H at hP hS ⊢
  have hP : va_P (dC, dI) classes [(hm, .inr (1, [.int sc, .ref hn, .int (nI nk)])), (hn, .inl (cI, 16, .inl nd)), (ha, .inl (cI, N, .inl f_3))] H := hP.sub [0, 1, 2] rfl
  have hD : va_D A [(hm, .inr (1, [.int sc, .ref hn, .int (nI nk)])), (hn, .inl (cI, 16, .inl nd)), (ha, .inl (cI, N, .inl f_3))] := hD.sub [0, 1, 2] (by decide) rfl
  clear hPc hDc hFc hP1 hD1 hk1 hz1 hvm ht
  refine lv_aload_n hx hb d_Mk_pack_28 rfl (lv_at hl 1 rfl) ?_
  refine lv_iload_n hx hb d_Mk_pack_29 rfl (lv_at hl 2 rfl) ?_
  refine lv_iconst (v := (nI 4)) hx hb d_Mk_pack_30 (by decide) ?_
  refine lv_iadd hx hb d_Mk_pack_31 ?_
  refine tp (nI_add _ _) ?_
  refine lv_aload_n hx hb d_Mk_pack_32 rfl (lv_at hl 0 rfl) ?_
  refine va_get (D := (dC, dI)) (ci := 1) (v := .int (nI nk)) (C := R_Mk) (T := F_Mk) (N := 3) hx hb hts in_Mk hown hK hP 0 rfl rfl 2 (by decide) (hts _ kw_78) (fun _ h9 => h9) rfl d_Mk_pack_33 ?_
  refine ar_st (k := b + 4) hx hb hK hP hD hS 2 0 rfl rfl (by omega) (by first | decide | omega) d_Mk_pack_36 (fun H locs hP hD hS => ?_)
  have hP : va_P (dC, dI) classes [(hm, .inr (1, [.int sc, .ref hn, .int (nI nk)])), (hn, .inl (cI, 16, .inl nd)), (ha, .inl (cI, N, .inl (upd f_3 (b + 4) (nI nk))))] H := hP
  have hD : va_D A [(hm, .inr (1, [.int sc, .ref hn, .int (nI nk)])), (hn, .inl (cI, 16, .inl nd)), (ha, .inl (cI, N, .inl (upd f_3 (b + 4) (nI nk))))] := hD
  refine lv_aload_n hx hb d_Mk_pack_37 rfl (lv_at hl 0 rfl) ?_
  refine lv_aload_n hx hb d_Mk_pack_38 rfl (lv_at hl 1 rfl) ?_
  refine lv_iload_n hx hb d_Mk_pack_39 rfl (lv_at hl 2 rfl) ?_
  have hPc := hP.sub (ws' := [(hm, .inr (1, [.int sc, .ref hn, .int (nI nk)])), (ha, .inl (cI, N, .inl (upd f_3 (b + 4) (nI nk))))]) [0, 2] rfl
  have hDc := hD.sub (ws' := [(hm, .inr (1, [.int sc, .ref hn, .int (nI nk)])), (ha, .inl (cI, N, .inl (upd f_3 (b + 4) (nI nk))))]) [0, 2] (by decide) rfl
  have hFc := va_free (wc := [(hm, .inr (1, [.int sc, .ref hn, .int (nI nk)])), (ha, .inl (cI, N, .inl (upd f_3 (b + 4) (nI nk))))]) hD hS hA [0, 2] rfl
  refine va_callv (va_runV (As := [.ref ha, .int (nI b)]) (rest := []) ⟨hx, hb, hml, hown, hts⟩ (c_Mk_putChains l dC dI cI (hm := hm) (ha := ha) (b := b) (sc := sc) (hn := hn) (nk := nk) (N := N) (f := upd f_3 (b + 4) (nI nk)) (hN := (by omega)) (hbN := (by omega)) (sz := H.size)) ⟨callB_of 2 hts (gd kw_101) rfl rfl rfl (hts _ kw_36) (hts _ kw_98) (by decide +kernel) ⟨Nat.le_of_ble_eq_true rfl, Nat.le_of_ble_eq_true rfl⟩, (hts _ kw_100), (hts _ kw_0)⟩ ⟨fun a U g mk q => by obtain ⟨q0, q1, qP, qK, qD⟩ := q; exact ⟨q0, q1, qP, qK.call, qD⟩, va_recv hK hP (ci := 1) rfl (q0 := 0) rfl, fun U hU hW => ⟨rfl, by rw [hU], by rw [hU]; exact hPc, hKN.warm hW, hDc.weaken (fun _ _ _ _ => trivial)⟩⟩ rfl rfl hl.1 rfl (lv_room (Nat.le_of_ble_eq_true rfl)) d_Mk_pack_40 ⟨Nat.zero_le _, Nat.zero_le _⟩) hS (fun q _ h => hFc q h) hFc (fun u t H1 locs ht hvm hw hB hz1 hk1 hS => ?_)
  obtain ⟨f_4, rfl⟩ : ∃ z, z = u := ⟨_, rfl⟩
  have hu_4 := hw
  obtain ⟨hP1, hD1⟩ := hB
  rw [ht] at hP1
  have hP1 : va_P (dC, dI) classes [(hm, .inr (1, [.int sc, .ref hn, .int (nI nk)])), (ha, .inl (cI, N, .inl f_4))] H1 := hP1
  obtain ⟨hP, hD⟩ := va_join (wc := [(hm, .inr (1, [.int sc, .ref hn, .int (nI nk)])), (ha, .inl (cI, N, .inl (upd f_3 (b + 4) (nI nk))))]) (wr := [(hn, .inl (cI, 16, .inl nd))]) (w1 := [(hm, .inr (1, [.int sc, .ref hn, .int (nI nk)])), (ha, .inl (cI, N, .inl f_4))]) hP hD [0, 2] [1] rfl rfl (by decide) (by decide) hk1 hFc hP1 hD1
  generalize H1 = H at hP hS ⊢
  have hP : va_P (dC, dI) classes [(hm, .inr (1, [.int sc, .ref hn, .int (nI nk)])), (hn, .inl (cI, 16, .inl nd)), (ha, .inl (cI, N, .inl f_4))] H := hP.sub [1, 0, 2] rfl
  have hD : va_D A [(hm, .inr (1, [.int sc, .ref hn, .int (nI nk)])), (hn, .inl (cI, 16, .inl nd)), (ha, .inl (cI, N, .inl f_4))] := hD.sub [1, 0, 2] (by decide) rfl
  clear hPc hDc hFc hP1 hD1 hk1 hz1 hvm ht
  refine lv_aload_n hx hb d_Mk_pack_43 rfl (lv_at hl 0 rfl) ?_
  refine lv_aload_n hx hb d_Mk_pack_44 rfl (lv_at hl 1 rfl) ?_
  refine lv_iload_n hx hb d_Mk_pack_45 rfl (lv_at hl 2 rfl) ?_
  have hPc := hP.sub (ws' := [(hm, .inr (1, [.int sc, .ref hn, .int (nI nk)])), (hn, .inl (cI, 16, .inl nd)), (ha, .inl (cI, N, .inl f_4))]) [0, 1, 2] rfl
  have hDc := hD.sub (ws' := [(hm, .inr (1, [.int sc, .ref hn, .int (nI nk)])), (hn, .inl (cI, 16, .inl nd)), (ha, .inl (cI, N, .inl f_4))]) [0, 1, 2] (by decide) rfl
  have hFc := va_free (wc := [(hm, .inr (1, [.int sc, .ref hn, .int (nI nk)])), (hn, .inl (cI, 16, .inl nd)), (ha, .inl (cI, N, .inl f_4))]) hD hS hA [0, 1, 2] rfl
  refine va_callv (va_runV (As := [.ref ha, .int (nI b)]) (rest := []) ⟨hx, hb, hml, hown, hts⟩ (c_Mk_putPath l dC dI cI (hm := hm) (ha := ha) (b := b) (sc := sc) (hn := hn) (nk := nk) (nd := nd) (N := N) (f := f_4) (hN := (by omega)) (hbN := (by omega)) (hnk := (by omega)) (sz := H.size)) ⟨callB_of 2 hts (gd kw_111) rfl rfl rfl (hts _ kw_36) (hts _ kw_108) (by decide +kernel) ⟨Nat.le_of_ble_eq_true rfl, Nat.le_of_ble_eq_true rfl⟩, (hts _ kw_110), (hts _ kw_1)⟩ ⟨fun a U g mk q => by obtain ⟨q0, q1, qP, qK, qD⟩ := q; exact ⟨q0, q1, qP, qK.call, qD⟩, va_recv hK hP (ci := 1) rfl (q0 := 0) rfl, fun U hU hW => ⟨rfl, by rw [hU], by rw [hU]; exact hPc, hKN.warm hW, hDc.weaken (fun _ _ _ _ => trivial)⟩⟩ rfl rfl hl.1 rfl (lv_room (Nat.le_of_ble_eq_true rfl)) d_Mk_pack_46 ⟨Nat.zero_le _, Nat.zero_le _⟩) hS (fun q _ h => hFc q h) hFc (fun u t H1 locs ht hvm hw hB hz1 hk1 hS => ?_)
  obtain ⟨f_5, rfl⟩ : ∃ z, z = u := ⟨_, rfl⟩
  have hu_5 := hw
  obtain ⟨hP1, hD1⟩ := hB
  rw [ht] at hP1
  have hP1 : va_P (dC, dI) classes [(hm, .inr (1, [.int sc, .ref hn, .int (nI nk)])), (hn, .inl (cI, 16, .inl nd)), (ha, .inl (cI, N, .inl f_5))] H1 := hP1
  obtain ⟨hP, hD⟩ := va_join (wc := [(hm, .inr (1, [.int sc, .ref hn, .int (nI nk)])), (hn, .inl (cI, 16, .inl nd)), (ha, .inl (cI, N, .inl f_4))]) (wr := []) (w1 := [(hm, .inr (1, [.int sc, .ref hn, .int (nI nk)])), (hn, .inl (cI, 16, .inl nd)), (ha, .inl (cI, N, .inl f_5))]) hP hD [0, 1, 2] [] rfl rfl (by decide) (by decide) hk1 hFc hP1 hD1
  generalize H1 = H at hP hS ⊢
  have hP : va_P (dC, dI) classes [(hm, .inr (1, [.int sc, .ref hn, .int (nI nk)])), (hn, .inl (cI, 16, .inl nd)), (ha, .inl (cI, N, .inl f_5))] H := hP.sub [0, 1, 2] rfl
  have hD : va_D A [(hm, .inr (1, [.int sc, .ref hn, .int (nI nk)])), (hn, .inl (cI, 16, .inl nd)), (ha, .inl (cI, N, .inl f_5))] := hD.sub [0, 1, 2] (by decide) rfl
  clear hPc hDc hFc hP1 hD1 hk1 hz1 hvm ht
  refine lv_aload_n hx hb d_Mk_pack_49 rfl (lv_at hl 0 rfl) ?_
  refine lv_dup hx hb d_Mk_pack_50 rfl ?_
  refine va_get (D := (dC, dI)) (ci := 1) (v := .int (nI nk)) (C := R_Mk) (T := F_Mk) (N := 3) hx hb hts in_Mk hown hK hP 0 rfl rfl 2 (by decide) (hts _ kw_78) (fun _ h9 => h9) rfl d_Mk_pack_51 ?_
  refine lv_iconst (v := (nI 1)) hx hb d_Mk_pack_54 (by decide) ?_
  refine lv_iadd hx hb d_Mk_pack_55 ?_
  refine tp (nI_add _ _) ?_
  refine va_put (D := (dC, dI)) (ci := 1) (v := .int (nI (nk + 1))) (ty := .int) (C := R_Mk) (T := F_Mk) (N := 3) hx hb hts in_Mk t_Mk t_Mk_ok n_Mk hown hK hP hD hS 0 rfl rfl 2 (by decide) (hts _ kw_78) (fun _ h9 => h9) rfl (by decide +kernel) rfl rfl (Nat.le_of_ble_eq_true rfl) d_Mk_pack_56 (fun H locs hP hD hS => ?_)
  have hP : va_P (dC, dI) classes [(hm, .inr (1, [.int sc, .ref hn, .int (nI (nk + 1))])), (hn, .inl (cI, 16, .inl nd)), (ha, .inl (cI, N, .inl f_5))] H := hP
  have hD : va_D A [(hm, .inr (1, [.int sc, .ref hn, .int (nI (nk + 1))])), (hn, .inl (cI, 16, .inl nd)), (ha, .inl (cI, N, .inl f_5))] := hD
  exact W.vret hx hb hr (fun t ht hW => ⟨⟨(nk + 1, f_5), rfl, (by first | rfl | (simp only [pk17, hu_1, hu_2, hu_3, hu_4, hu_5]; done) | (simp only [pk17, hu_1, hu_2, hu_3, hu_4, hu_5]; rfl) | (simp [pk17, hu_1, hu_2, hu_3, hu_4, hu_5]; done)), by rw [ht]; exact hP, hD⟩, hS.F ht⟩) hS.2.2 d_Mk_pack_59
end
section
set_option maxHeartbeats 4000000 in
set_option maxRecDepth 100000 in
theorem c_Tb_shift (l : Launch) (dC : Nat → ClassId) (dI : Nat → Nat → Nat) (cI : ClassId) (k : Nat)  : Met l y_Tb_shift w_Tb_shift ({ frames := 0, cells := 0, slots := 0, locals := 0 }) (va_Pc [.int (nI k)] (fun U => va_P (dC, dI) classes [] U.heap ∧ KN dC dI cI U)) (qr (nI (1 + 2 * k))) 0 0 (fun _ => False) := by
  refine Met.ofW (cc := b_Tb_shift) (maxL := 1) (ret := (some .int)) (by decide) rfl ?_
  intro p e s m args below meth c s₁ B hml hv
  obtain ⟨rfl, hP, hKN⟩ := hv
  have hK := hKN.1
  have hx := B.exec
  have hb := B.bytes
  have hr := B.returns
  have hts := fun (w : Cond) (h : w ∈ gt) => atoms_spec (ws := w_Tb_shift) B.pre w (List.mem_cons_of_mem _ h)
  have hown : s.vm.findClass R_Tb = some m.cls := findClass_of_methodNamed B.named
  have hlocks := B.notSynchronized
  have hl := lv_entry ([.int (nI k)]) (n := 1) (Nat.le_of_ble_eq_true rfl)
  rw [lg_entry_eq]
  generalize (lg_sl ([.int (nI k)]) ++ List.replicate (1 - (lg_sl ([.int (nI k)])).length) Slot.unset).toArray = ls at hl ⊢
  have hl : lv_has ls 1 [(0, .int (nI k))] := hl
  refine lv_iconst (v := (nI 1)) hx hb d_Tb_shift_0 (by decide) ?_
  refine lv_iconst (v := (nI 2)) hx hb d_Tb_shift_1 (by decide) ?_
  refine lv_iload_n hx hb d_Tb_shift_2 rfl (lv_at hl 0 rfl) ?_
  refine lv_imul hx hb d_Tb_shift_3 ?_
  refine tp (pk_mul _ _) ?_
  refine lv_iadd hx hb d_Tb_shift_4 ?_
  refine tp (nI_add _ _) ?_
  exact W.iret (v := (nI (1 + (2 * k)))) hx hb hr (fun t ht hW => ⟨_, rfl, (by first | rfl | (simp only []; done) | (simp only []; rfl) | (simp []; done)), ht⟩) (fun q h => by cases h) d_Tb_shift_5
set_option maxHeartbeats 4000000 in
set_option maxRecDepth 100000 in
theorem c_Tb_homeIn (l : Launch) (dC : Nat → ClassId) (dI : Nat → Nat → Nat) (cI : ClassId) (en : Int32)  : Met l y_Tb_homeIn w_Tb_homeIn ({ frames := 0, cells := 0, slots := 0, locals := 0 }) (va_Pc [.int en] (fun U => va_P (dC, dI) classes [] U.heap ∧ KN dC dI cI U)) (qr (nI (hom en))) 0 0 (fun _ => False) := by
  refine Met.ofW (cc := b_Tb_homeIn) (maxL := 1) (ret := (some .int)) (by decide) rfl ?_
  intro p e s m args below meth c s₁ B hml hv
  obtain ⟨rfl, hP, hKN⟩ := hv
  have hK := hKN.1
  have hx := B.exec
  have hb := B.bytes
  have hr := B.returns
  have hts := fun (w : Cond) (h : w ∈ gt) => atoms_spec (ws := w_Tb_homeIn) B.pre w (List.mem_cons_of_mem _ h)
  have hown : s.vm.findClass R_Tb = some m.cls := findClass_of_methodNamed B.named
  have hlocks := B.notSynchronized
  have hl := lv_entry ([.int en]) (n := 1) (Nat.le_of_ble_eq_true rfl)
  rw [lg_entry_eq]
  generalize (lg_sl ([.int en]) ++ List.replicate (1 - (lg_sl ([.int en])).length) Slot.unset).toArray = ls at hl ⊢
  have hl : lv_has ls 1 [(0, .int en)] := hl
  refine lv_iload_n hx hb d_Tb_homeIn_0 rfl (lv_at hl 0 rfl) ?_
  refine lv_iconst (v := (nI 1)) hx hb d_Tb_homeIn_1 (by decide) ?_
  refine lv_iand hx hb d_Tb_homeIn_2 ?_
  refine tp (pk_and _ 1 (by decide)) ?_
  exact W.iret (v := (nI (hom en))) hx hb hr (fun t ht hW => ⟨_, rfl, (by first | rfl | (simp only []; done) | (simp only []; rfl) | (simp []; done)), ht⟩) (fun q h => by cases h) d_Tb_homeIn_3
set_option maxHeartbeats 4000000 in
set_option maxRecDepth 100000 in
theorem c_Tb_stateIn (l : Launch) (dC : Nat → ClassId) (dI : Nat → Nat → Nat) (cI : ClassId) (en : Int32) (k : Nat)  : Met l y_Tb_stateIn w_Tb_stateIn ({ frames := 1, cells := 0, slots := 0, locals := 20 }) (va_Pc [.int en, .int (nI k)] (fun U => va_P (dC, dI) classes [] U.heap ∧ KN dC dI cI U)) (qr (nI (stt en k))) 0 0 (fun _ => False) := by
  refine Met.ofW (cc := b_Tb_stateIn) (maxL := 2) (ret := (some .int)) (by decide) rfl ?_
  intro p e s m args below meth c s₁ B hml hv
  obtain ⟨rfl, hP, hKN⟩ := hv
  have hK := hKN.1
  have hx := B.exec
  have hb := B.bytes
  have hr := B.returns
  have hts := fun (w : Cond) (h : w ∈ gt) => atoms_spec (ws := w_Tb_stateIn) B.pre w (List.mem_cons_of_mem _ h)
  have hown : s.vm.findClass R_Tb = some m.cls := findClass_of_methodNamed B.named
  have hlocks := B.notSynchronized
  have hl := lv_entry ([.int en, .int (nI k)]) (n := 2) (Nat.le_of_ble_eq_true rfl)
  rw [lg_entry_eq]
  generalize (lg_sl ([.int en, .int (nI k)]) ++ List.replicate (2 - (lg_sl ([.int en, .int (nI k)])).length) Slot.unset).toArray = ls at hl ⊢
  have hl : lv_has ls 2 [(0, .int en), (1, .int (nI k))] := hl
  refine lv_iload_n hx hb d_Tb_stateIn_0 rfl (lv_at hl 0 rfl) ?_
  refine lv_iload_n hx hb d_Tb_stateIn_1 rfl (lv_at hl 1 rfl) ?_
  refine pr_call (va_runS (As := [.int (nI k)]) (rest := [.int en]) ⟨hx, hb, hml, hown, hts⟩ (c_Tb_shift l dC dI cI (k := k) ) ⟨callB_of 1 hts (gd kw_267) rfl rfl rfl (hts _ kw_42) (hts _ kw_265) (by decide +kernel) ⟨Nat.le_of_ble_eq_true rfl, Nat.le_of_ble_eq_true rfl⟩, (hts _ kw_266)⟩ ⟨fun a U g mk q => by obtain ⟨q0, qP, qK⟩ := q; exact ⟨q0, qP, qK.call⟩, fun U hU hW => ⟨rfl, by rw [hU]; exact hP.sub [] rfl, hKN.warm hW⟩⟩ rfl rfl hl.1 rfl (lv_room (Nat.le_of_ble_eq_true rfl)) d_Tb_stateIn_2 ⟨Nat.zero_le _, Nat.zero_le _⟩) ?_
  refine lv_iushr (v := ush en (nI (1 + 2 * k))) hx hb d_Tb_stateIn_5 rfl ?_
  refine lv_iconst (v := (nI 3)) hx hb d_Tb_stateIn_6 (by decide) ?_
  refine lv_iand hx hb d_Tb_stateIn_7 ?_
  refine tp (pk_and _ 2 (by decide)) ?_
  exact W.iret (v := (nI (stt en k))) hx hb hr (fun t ht hW => ⟨_, rfl, (by first | rfl | (simp only []; done) | (simp only []; rfl) | (simp []; done)), ht⟩) (fun q h => by cases h) d_Tb_stateIn_8
set_option maxHeartbeats 4000000 in
set_option maxRecDepth 100000 in
theorem c_Tb_withHome (l : Launch) (dC : Nat → ClassId) (dI : Nat → Nat → Nat) (cI : ClassId) (en : Int32) (k : Nat)  : Met l y_Tb_withHome w_Tb_withHome ({ frames := 0, cells := 0, slots := 0, locals := 0 }) (va_Pc [.int en, .int (nI k)] (fun U => va_P (dC, dI) classes [] U.heap ∧ KN dC dI cI U)) (qr (who en k)) 0 0 (fun _ => False) := by
  refine Met.ofW (cc := b_Tb_withHome) (maxL := 2) (ret := (some .int)) (by decide) rfl ?_
  intro p e s m args below meth c s₁ B hml hv
  obtain ⟨rfl, hP, hKN⟩ := hv
  have hK := hKN.1
  have hx := B.exec
  have hb := B.bytes
  have hr := B.returns
  have hts := fun (w : Cond) (h : w ∈ gt) => atoms_spec (ws := w_Tb_withHome) B.pre w (List.mem_cons_of_mem _ h)
  have hown : s.vm.findClass R_Tb = some m.cls := findClass_of_methodNamed B.named
  have hlocks := B.notSynchronized
  have hl := lv_entry ([.int en, .int (nI k)]) (n := 2) (Nat.le_of_ble_eq_true rfl)
  rw [lg_entry_eq]
  generalize (lg_sl ([.int en, .int (nI k)]) ++ List.replicate (2 - (lg_sl ([.int en, .int (nI k)])).length) Slot.unset).toArray = ls at hl ⊢
  have hl : lv_has ls 2 [(0, .int en), (1, .int (nI k))] := hl
  refine lv_iload_n hx hb d_Tb_withHome_0 rfl (lv_at hl 0 rfl) ?_
  refine lv_bipush (v := (-2)) hx hb d_Tb_withHome_1 (by decide) ?_
  refine lv_iand hx hb d_Tb_withHome_3 ?_
  refine lv_iload_n hx hb d_Tb_withHome_4 rfl (lv_at hl 1 rfl) ?_
  refine lv_ior hx hb d_Tb_withHome_5 ?_
  exact W.iret (v := ((en &&& (-2)) ||| (nI k))) hx hb hr (fun t ht hW => ⟨_, rfl, (by first | rfl | (simp only []; done) | (simp only []; rfl) | (simp []; done)), ht⟩) (fun q h => by cases h) d_Tb_withHome_6
set_option maxHeartbeats 4000000 in
set_option maxRecDepth 100000 in
theorem c_Tb_withState (l : Launch) (dC : Nat → ClassId) (dI : Nat → Nat → Nat) (cI : ClassId) (en : Int32) (k : Nat) (v : Nat)  : Met l y_Tb_withState w_Tb_withState ({ frames := 1, cells := 0, slots := 0, locals := 20 }) (va_Pc [.int en, .int (nI k), .int (nI v)] (fun U => va_P (dC, dI) classes [] U.heap ∧ KN dC dI cI U)) (qr (wst en k v)) 0 0 (fun _ => False) := by
  refine Met.ofW (cc := b_Tb_withState) (maxL := 3) (ret := (some .int)) (by decide) rfl ?_
  intro p e s m args below meth c s₁ B hml hv
  obtain ⟨rfl, hP, hKN⟩ := hv
  have hK := hKN.1
  have hx := B.exec
  have hb := B.bytes
  have hr := B.returns
  have hts := fun (w : Cond) (h : w ∈ gt) => atoms_spec (ws := w_Tb_withState) B.pre w (List.mem_cons_of_mem _ h)
  have hown : s.vm.findClass R_Tb = some m.cls := findClass_of_methodNamed B.named
  have hlocks := B.notSynchronized
  have hl := lv_entry ([.int en, .int (nI k), .int (nI v)]) (n := 3) (Nat.le_of_ble_eq_true rfl)
  rw [lg_entry_eq]
  generalize (lg_sl ([.int en, .int (nI k), .int (nI v)]) ++ List.replicate (3 - (lg_sl ([.int en, .int (nI k), .int (nI v)])).length) Slot.unset).toArray = ls at hl ⊢
  have hl : lv_has ls 3 [(0, .int en), (1, .int (nI k)), (2, .int (nI v))] := hl
  refine lv_iload_n hx hb d_Tb_withState_0 rfl (lv_at hl 0 rfl) ?_
  refine lv_iconst (v := (nI 3)) hx hb d_Tb_withState_1 (by decide) ?_
  refine lv_iload_n hx hb d_Tb_withState_2 rfl (lv_at hl 1 rfl) ?_
  refine pr_call (va_runS (As := [.int (nI k)]) (rest := [.int (nI 3), .int en]) ⟨hx, hb, hml, hown, hts⟩ (c_Tb_shift l dC dI cI (k := k) ) ⟨callB_of 1 hts (gd kw_267) rfl rfl rfl (hts _ kw_42) (hts _ kw_265) (by decide +kernel) ⟨Nat.le_of_ble_eq_true rfl, Nat.le_of_ble_eq_true rfl⟩, (hts _ kw_266)⟩ ⟨fun a U g mk q => by obtain ⟨q0, qP, qK⟩ := q; exact ⟨q0, qP, qK.call⟩, fun U hU hW => ⟨rfl, by rw [hU]; exact hP.sub [] rfl, hKN.warm hW⟩⟩ rfl rfl hl.1 rfl (lv_room (Nat.le_of_ble_eq_true rfl)) d_Tb_withState_3 ⟨Nat.zero_le _, Nat.zero_le _⟩) ?_
  refine lv_ishl hx hb d_Tb_withState_6 ?_
  refine lv_iconst (v := (-1)) hx hb d_Tb_withState_7 (by decide) ?_
  refine lv_ixor hx hb d_Tb_withState_8 ?_
  refine lv_iand hx hb d_Tb_withState_9 ?_
  refine lv_iload_n hx hb d_Tb_withState_10 rfl (lv_at hl 2 rfl) ?_
  refine lv_iload_n hx hb d_Tb_withState_11 rfl (lv_at hl 1 rfl) ?_
  refine pr_call (va_runS (As := [.int (nI k)]) (rest := [.int (nI v), .int (en &&& (((nI 3) <<< ((nI (1 + 2 * k)) &&& 31)) ^^^ (-1)))]) ⟨hx, hb, hml, hown, hts⟩ (c_Tb_shift l dC dI cI (k := k) ) ⟨callB_of 1 hts (gd kw_267) rfl rfl rfl (hts _ kw_42) (hts _ kw_265) (by decide +kernel) ⟨Nat.le_of_ble_eq_true rfl, Nat.le_of_ble_eq_true rfl⟩, (hts _ kw_266)⟩ ⟨fun a U g mk q => by obtain ⟨q0, qP, qK⟩ := q; exact ⟨q0, qP, qK.call⟩, fun U hU hW => ⟨rfl, by rw [hU]; exact hP.sub [] rfl, hKN.warm hW⟩⟩ rfl rfl hl.1 rfl (lv_room (Nat.le_of_ble_eq_true rfl)) d_Tb_withState_12 ⟨Nat.zero_le _, Nat.zero_le _⟩) ?_
  refine lv_ishl hx hb d_Tb_withState_15 ?_
  refine lv_ior hx hb d_Tb_withState_16 ?_
  exact W.iret (v := ((en &&& (((nI 3) <<< ((nI (1 + 2 * k)) &&& 31)) ^^^ (-1))) ||| ((nI v) <<< ((nI (1 + 2 * k)) &&& 31)))) hx hb hr (fun t ht hW => ⟨_, rfl, (by first | rfl | (simp only []; done) | (simp only []; rfl) | (simp []; done)), ht⟩) (fun q h => by cases h) d_Tb_withState_17
set_option maxHeartbeats 4000000 in
set_option maxRecDepth 100000 in
theorem c_Tb_trialIn (l : Launch) (dC : Nat → ClassId) (dI : Nat → Nat → Nat) (cI : ClassId) (en : Int32)  : Met l y_Tb_trialIn w_Tb_trialIn ({ frames := 2, cells := 0, slots := 0, locals := 41 }) (va_Pc [.int en] (fun U => va_P (dC, dI) classes [] U.heap ∧ KN dC dI cI U)) (qr (trl en)) 0 0 (fun _ => False) := by
  refine Met.ofW (cc := b_Tb_trialIn) (maxL := 2) (ret := (some .int)) (by decide) rfl ?_
  intro p e s m args below meth c s₁ B hml hv
  obtain ⟨rfl, hP, hKN⟩ := hv
  have hK := hKN.1
  have hx := B.exec
  have hb := B.bytes
  have hr := B.returns
  have hts := fun (w : Cond) (h : w ∈ gt) => atoms_spec (ws := w_Tb_trialIn) B.pre w (List.mem_cons_of_mem _ h)
  have hown : s.vm.findClass R_Tb = some m.cls := findClass_of_methodNamed B.named
  have hlocks := B.notSynchronized
  have hl := lv_entry ([.int en]) (n := 2) (Nat.le_of_ble_eq_true rfl)
  rw [lg_entry_eq]
  generalize (lg_sl ([.int en]) ++ List.replicate (2 - (lg_sl ([.int en])).length) Slot.unset).toArray = ls at hl ⊢
  have hl : lv_has ls 2 [(0, .int en)] := hl
  have ghom := hom_lt en
  have gs1 := stt_lt en (1 - hom en)
  have gs0 := stt_lt en (hom en)
  refine lv_iload_n hx hb d_Tb_trialIn_0 rfl (lv_at hl 0 rfl) ?_
  refine pr_call (va_runS (As := [.int en]) (rest := []) ⟨hx, hb, hml, hown, hts⟩ (c_Tb_homeIn l dC dI cI (en := en) ) ⟨callB_of 1 hts (gd kw_257) rfl rfl rfl (hts _ kw_42) (hts _ kw_309) (by decide +kernel) ⟨Nat.le_of_ble_eq_true rfl, Nat.le_of_ble_eq_true rfl⟩, (hts _ kw_256)⟩ ⟨fun a U g mk q => by obtain ⟨q0, qP, qK⟩ := q; exact ⟨q0, qP, qK.call⟩, fun U hU hW => ⟨rfl, by rw [hU]; exact hP.sub [] rfl, hKN.warm hW⟩⟩ rfl rfl hl.1 rfl (lv_room (Nat.le_of_ble_eq_true rfl)) d_Tb_trialIn_1 ⟨Nat.zero_le _, Nat.zero_le _⟩) ?_
  refine lv_istore_n (lv' := [(1, .int (nI (hom en))), (0, .int en)]) hx hb d_Tb_trialIn_4 rfl hl (by decide) rfl (fun ls hl => ?_)
  refine lv_iload_n hx hb d_Tb_trialIn_5 rfl (lv_at hl 1 rfl) ?_
  refine lv_iconst (v := (nI 1)) hx hb d_Tb_trialIn_6 (by decide) ?_
  refine lv_iload_n hx hb d_Tb_trialIn_7 rfl (lv_at hl 0 rfl) ?_
  refine lv_isub hx hb d_Tb_trialIn_8 ?_
  refine tp (pk_sub (by omega)) ?_
  refine pr_call (va_runS (As := [.int en, .int (nI (1 - (hom en)))]) (rest := []) ⟨hx, hb, hml, hown, hts⟩ (c_Tb_stateIn l dC dI cI (en := en) (k := 1 - (hom en)) ) ⟨callB_of 2 hts (gd kw_312) rfl rfl rfl (hts _ kw_42) (hts _ kw_310) (by decide +kernel) ⟨Nat.le_of_ble_eq_true rfl, Nat.le_of_ble_eq_true rfl⟩, (hts _ kw_311)⟩ ⟨fun a U g mk q => by obtain ⟨q0, qP, qK⟩ := q; exact ⟨q0, qP, qK.call⟩, fun U hU hW => ⟨rfl, by rw [hU]; exact hP.sub [] rfl, hKN.warm hW⟩⟩ rfl rfl hl.1 rfl (lv_room (Nat.le_of_ble_eq_true rfl)) d_Tb_trialIn_9 ⟨Nat.zero_le _, Nat.zero_le _⟩) ?_
  refine lv_iconst (v := (nI 2)) hx hb d_Tb_trialIn_12 (by decide) ?_
  refine nb_ne (tgt := 20) hx hb d_Tb_trialIn_13 (by decide) (by first | omega | exact Nat.lt_of_lt_of_le (stt_lt _ _) (by decide)) (by first | omega | exact Nat.lt_of_lt_of_le (stt_lt _ _) (by decide)) (fun h_1 => ?_) (fun h_1 => ?_)
  · refine lv_iload_n hx hb d_Tb_trialIn_20 rfl (lv_at hl 1 rfl) ?_
    refine lv_iload_n hx hb d_Tb_trialIn_21 rfl (lv_at hl 0 rfl) ?_
    refine pr_call (va_runS (As := [.int en, .int (nI (hom en))]) (rest := []) ⟨hx, hb, hml, hown, hts⟩ (c_Tb_stateIn l dC dI cI (en := en) (k := hom en) ) ⟨callB_of 2 hts (gd kw_312) rfl rfl rfl (hts _ kw_42) (hts _ kw_310) (by decide +kernel) ⟨Nat.le_of_ble_eq_true rfl, Nat.le_of_ble_eq_true rfl⟩, (hts _ kw_311)⟩ ⟨fun a U g mk q => by obtain ⟨q0, qP, qK⟩ := q; exact ⟨q0, qP, qK.call⟩, fun U hU hW => ⟨rfl, by rw [hU]; exact hP.sub [] rfl, hKN.warm hW⟩⟩ rfl rfl hl.1 rfl (lv_room (Nat.le_of_ble_eq_true rfl)) d_Tb_trialIn_22 ⟨Nat.zero_le _, Nat.zero_le _⟩) ?_
    refine lv_iconst (v := (nI 2)) hx hb d_Tb_trialIn_25 (by decide) ?_
    refine nb_ne (tgt := 33) hx hb d_Tb_trialIn_26 (by decide) (by first | omega | exact Nat.lt_of_lt_of_le (stt_lt _ _) (by decide)) (by first | omega | exact Nat.lt_of_lt_of_le (stt_lt _ _) (by decide)) (fun h_2 => ?_) (fun h_2 => ?_)
    · refine lv_iconst (v := (-1)) hx hb d_Tb_trialIn_33 (by decide) ?_
      exact W.iret (v := (-1)) hx hb hr (fun t ht hW => ⟨_, rfl, (by simp [trl, h_1, h_2]), ht⟩) (fun q h => by cases h) d_Tb_trialIn_34
    · refine lv_iload_n hx hb d_Tb_trialIn_29 rfl (lv_at hl 0 rfl) ?_
      refine lv_goto (tgt := 34) hx hb d_Tb_trialIn_30 (by decide) ?_
      exact W.iret (v := (nI (hom en))) hx hb hr (fun t ht hW => ⟨_, rfl, (by simp [trl, h_1, h_2]), ht⟩) (fun q h => by cases h) d_Tb_trialIn_34
  · refine lv_iconst (v := (nI 1)) hx hb d_Tb_trialIn_16 (by decide) ?_
    refine lv_iload_n hx hb d_Tb_trialIn_17 rfl (lv_at hl 0 rfl) ?_
    refine lv_isub hx hb d_Tb_trialIn_18 ?_
    refine tp (pk_sub (by omega)) ?_
    exact W.iret (v := (nI (1 - (hom en)))) hx hb hr (fun t ht hW => ⟨_, rfl, (by simp [trl, h_1]), ht⟩) (fun q h => by cases h) d_Tb_trialIn_19
set_option maxHeartbeats 4000000 in
set_option maxRecDepth 100000 in
theorem c_St_versionIn (l : Launch) (dC : Nat → ClassId) (dI : Nat → Nat → Nat) (cI : ClassId) (hs : Nat) (k : Nat) (hw : Nat) (bl : Nat) (dn : Int32) (lf : Int32) (M : Nat → Int32) (hk : k < 2) : Met l y_St_versionIn w_St_versionIn ({ frames := 1, cells := 0, slots := 0, locals := 20 }) (va_Pc [.ref hs, .int (nI k)] (fun U => va_P (dC, dI) classes [(hs, .inr (2, [.ref hw, .int (nI bl), .int dn, .int lf])), (hw, .inl (cI, 40, .inl M))] U.heap ∧ KN dC dI cI U)) (qr (M (k * 17))) 0 0 (fun _ => False) := by
  refine Met.ofW (cc := b_St_versionIn) (maxL := 2) (ret := (some .int)) (by decide) rfl ?_
  intro p e s m args below meth c s₁ B hml hv
  obtain ⟨rfl, hP, hKN⟩ := hv
  have hK := hKN.1
  have hx := B.exec
  have hb := B.bytes
  have hr := B.returns
  have hts := fun (w : Cond) (h : w ∈ gt) => atoms_spec (ws := w_St_versionIn) B.pre w (List.mem_cons_of_mem _ h)
  have hown : s.vm.findClass R_St = some m.cls := findClass_of_methodNamed B.named
  have hlocks := B.notSynchronized
  have hl := lv_entry ([.ref hs, .int (nI k)]) (n := 2) (Nat.le_of_ble_eq_true rfl)
  rw [lg_entry_eq]
  generalize (lg_sl ([.ref hs, .int (nI k)]) ++ List.replicate (2 - (lg_sl ([.ref hs, .int (nI k)])).length) Slot.unset).toArray = ls at hl ⊢
  have hl : lv_has ls 2 [(0, .ref hs), (1, .int (nI k))] := hl
  refine lv_aload_n hx hb d_St_versionIn_0 rfl (lv_at hl 0 rfl) ?_
  refine va_get (D := (dC, dI)) (ci := 2) (v := .ref hw) (C := R_St) (T := F_St) (N := 4) hx hb hts in_St hown hK hP 0 rfl rfl 0 (by decide) (hts _ kw_125) (fun _ h9 => h9) rfl d_St_versionIn_1 ?_
  refine lv_iload_n hx hb d_St_versionIn_4 rfl (lv_at hl 1 rfl) ?_
  refine pr_call (va_runS (As := [.int (nI k)]) (rest := [.ref hw]) ⟨hx, hb, hml, hown, hts⟩ (c_St_slotPlace l dC dI cI (k := k) ) ⟨callB_of 1 hts (gd kw_289) rfl rfl rfl (hts _ kw_39) (hts _ kw_287) (by decide +kernel) ⟨Nat.le_of_ble_eq_true rfl, Nat.le_of_ble_eq_true rfl⟩, (hts _ kw_288)⟩ ⟨fun a U g mk q => by obtain ⟨q0, qP, qK⟩ := q; exact ⟨q0, qP, qK.call⟩, fun U hU hW => ⟨rfl, by rw [hU]; exact hP.sub [] rfl, hKN.warm hW⟩⟩ rfl rfl hl.1 rfl (lv_room (Nat.le_of_ble_eq_true rfl)) d_St_versionIn_5 ⟨Nat.zero_le _, Nat.zero_le _⟩) ?_
  refine ar_ld (k := k * 17) hx hb hK hP 1 0 rfl rfl (by omega) (by first | decide | omega) d_St_versionIn_8 ?_
  exact W.iret (v := (M (k * 17))) hx hb hr (fun t ht hW => ⟨_, rfl, (by first | rfl | (simp only []; done) | (simp only []; rfl) | (simp []; done)), ht⟩) (fun q h => by cases h) d_St_versionIn_9
set_option maxHeartbeats 4000000 in
set_option maxRecDepth 100000 in
theorem c_St_isGood (l : Launch) (dC : Nat → ClassId) (dI : Nat → Nat → Nat) (cI : ClassId) (hs : Nat) (k : Nat) (hw : Nat) (bl : Nat) (dn : Int32) (lf : Int32) (M : Nat → Int32) (hk : k < 2) : Met l y_St_isGood w_St_isGood ({ frames := 2, cells := 0, slots := 0, locals := 43 }) (va_Pc [.ref hs, .int (nI k)] (fun U => va_P (dC, dI) classes [(hs, .inr (2, [.ref hw, .int (nI bl), .int dn, .int lf])), (hw, .inl (cI, 40, .inl M))] U.heap ∧ KN dC dI cI U)) (qr (bI (good M k))) 0 0 (fun _ => False) := by
  refine Met.ofW (cc := b_St_isGood) (maxL := 3) (ret := (some .boolean)) (by decide) rfl ?_
  intro p e s m args below meth c s₁ B hml hv
  obtain ⟨rfl, hP, hKN⟩ := hv
  have hK := hKN.1
  have hx := B.exec
  have hb := B.bytes
  have hr := B.returns
  have hts := fun (w : Cond) (h : w ∈ gt) => atoms_spec (ws := w_St_isGood) B.pre w (List.mem_cons_of_mem _ h)
  have hown : s.vm.findClass R_St = some m.cls := findClass_of_methodNamed B.named
  have hlocks := B.notSynchronized
  have hl := lv_entry ([.ref hs, .int (nI k)]) (n := 3) (Nat.le_of_ble_eq_true rfl)
  rw [lg_entry_eq]
  generalize (lg_sl ([.ref hs, .int (nI k)]) ++ List.replicate (3 - (lg_sl ([.ref hs, .int (nI k)])).length) Slot.unset).toArray = ls at hl ⊢
  have hl : lv_has ls 3 [(0, .ref hs), (1, .int (nI k))] := hl
  refine lv_iload_n hx hb d_St_isGood_0 rfl (lv_at hl 1 rfl) ?_
  refine pr_call (va_runS (As := [.int (nI k)]) (rest := []) ⟨hx, hb, hml, hown, hts⟩ (c_St_recordPlace l dC dI cI (k := k) ) ⟨callB_of 1 hts (gd kw_254) rfl rfl rfl (hts _ kw_39) (hts _ kw_252) (by decide +kernel) ⟨Nat.le_of_ble_eq_true rfl, Nat.le_of_ble_eq_true rfl⟩, (hts _ kw_253)⟩ ⟨fun a U g mk q => by obtain ⟨q0, qP, qK⟩ := q; exact ⟨q0, qP, qK.call⟩, fun U hU hW => ⟨rfl, by rw [hU]; exact hP.sub [] rfl, hKN.warm hW⟩⟩ rfl rfl hl.1 rfl (lv_room (Nat.le_of_ble_eq_true rfl)) d_St_isGood_1 ⟨Nat.zero_le _, Nat.zero_le _⟩) ?_
  refine lv_istore_n (lv' := [(2, .int (nI (34 + 3 * k))), (0, .ref hs), (1, .int (nI k))]) hx hb d_St_isGood_4 rfl hl (by decide) rfl (fun ls hl => ?_)
  refine lv_aload_n hx hb d_St_isGood_5 rfl (lv_at hl 1 rfl) ?_
  refine va_get (D := (dC, dI)) (ci := 2) (v := .ref hw) (C := R_St) (T := F_St) (N := 4) hx hb hts in_St hown hK hP 0 rfl rfl 0 (by decide) (hts _ kw_125) (fun _ h9 => h9) rfl d_St_isGood_6 ?_
  refine lv_iload_n hx hb d_St_isGood_9 rfl (lv_at hl 0 rfl) ?_
  refine lv_iconst (v := (nI 2)) hx hb d_St_isGood_10 (by decide) ?_
  refine lv_iadd hx hb d_St_isGood_11 ?_
  refine tp (nI_add _ _) ?_
  refine ar_ld (k := (34 + 3 * k) + 2) hx hb hK hP 1 0 rfl rfl (by omega) (by first | decide | omega) d_St_isGood_12 ?_
  refine lv_aload_n hx hb d_St_isGood_13 rfl (lv_at hl 1 rfl) ?_
  refine va_get (D := (dC, dI)) (ci := 2) (v := .ref hw) (C := R_St) (T := F_St) (N := 4) hx hb hts in_St hown hK hP 0 rfl rfl 0 (by decide) (hts _ kw_125) (fun _ h9 => h9) rfl d_St_isGood_14 ?_
  refine lv_iload_n hx hb d_St_isGood_17 rfl (lv_at hl 0 rfl) ?_
  refine ar_ld (k := 34 + 3 * k) hx hb hK hP 1 0 rfl rfl (by omega) (by first | decide | omega) d_St_isGood_18 ?_
  refine lv_aload_n hx hb d_St_isGood_19 rfl (lv_at hl 1 rfl) ?_
  refine va_get (D := (dC, dI)) (ci := 2) (v := .ref hw) (C := R_St) (T := F_St) (N := 4) hx hb hts in_St hown hK hP 0 rfl rfl 0 (by decide) (hts _ kw_125) (fun _ h9 => h9) rfl d_St_isGood_20 ?_
  refine lv_iload_n hx hb d_St_isGood_23 rfl (lv_at hl 0 rfl) ?_
  refine lv_iconst (v := (nI 1)) hx hb d_St_isGood_24 (by decide) ?_
  refine lv_iadd hx hb d_St_isGood_25 ?_
  refine tp (nI_add _ _) ?_
  refine ar_ld (k := (34 + 3 * k) + 1) hx hb hK hP 1 0 rfl rfl (by omega) (by first | decide | omega) d_St_isGood_26 ?_
  refine pr_call (va_runS (As := [.int (M (34 + 3 * k)), .int (M ((34 + 3 * k) + 1))]) (rest := [.int (M ((34 + 3 * k) + 2))]) ⟨hx, hb, hml, hown, hts⟩ (c_St_check l dC dI cI (a := M (34 + 3 * k)) (b := M ((34 + 3 * k) + 1)) ) ⟨callB_of 2 hts (gd kw_123) rfl rfl rfl (hts _ kw_39) (hts _ kw_121) (by decide +kernel) ⟨Nat.le_of_ble_eq_true rfl, Nat.le_of_ble_eq_true rfl⟩, (hts _ kw_122)⟩ ⟨fun a U g mk q => by obtain ⟨q0, qP, qK⟩ := q; exact ⟨q0, qP, qK.call⟩, fun U hU hW => ⟨rfl, by rw [hU]; exact hP.sub [] rfl, hKN.warm hW⟩⟩ rfl rfl hl.1 rfl (lv_room (Nat.le_of_ble_eq_true rfl)) d_St_isGood_27 ⟨Nat.zero_le _, Nat.zero_le _⟩) ?_
  refine lv_icmp_ne (tgt := 37) hx hb d_St_isGood_30 (by decide) (fun h_1 => ?_) (fun h_1 => ?_)
  · refine lv_iconst (v := (nI 0)) hx hb d_St_isGood_37 (by decide) ?_
    exact W.zret (v := (bI false)) hx hb hr (bI_narrow _) (fun t ht hW => ⟨_, rfl, (by simp [good, h_1]), ht⟩) (fun q h => by cases h) d_St_isGood_38
  · refine lv_iconst (v := (nI 1)) hx hb d_St_isGood_33 (by decide) ?_
    refine lv_goto (tgt := 38) hx hb d_St_isGood_34 (by decide) ?_
    exact W.zret (v := (bI true)) hx hb hr (bI_narrow _) (fun t ht hW => ⟨_, rfl, (by simp [good, h_1]), ht⟩) (fun q h => by cases h) d_St_isGood_38
set_option maxHeartbeats 4000000 in
set_option maxRecDepth 100000 in
theorem c_St_currentRecord (l : Launch) (dC : Nat → ClassId) (dI : Nat → Nat → Nat) (cI : ClassId) (hs : Nat) (hw : Nat) (bl : Nat) (dn : Int32) (lf : Int32) (M : Nat → Int32)  : Met l y_St_currentRecord w_St_currentRecord ({ frames := 3, cells := 0, slots := 0, locals := 65 }) (va_Pc [.ref hs] (fun U => va_P (dC, dI) classes [(hs, .inr (2, [.ref hw, .int (nI bl), .int dn, .int lf])), (hw, .inl (cI, 40, .inl M))] U.heap ∧ KN dC dI cI U)) (qr (cur M)) 0 0 (fun _ => False) := by
  refine Met.ofW (cc := b_St_currentRecord) (maxL := 3) (ret := (some .int)) (by decide) rfl ?_
  intro p e s m args below meth c s₁ B hml hv
  obtain ⟨rfl, hP, hKN⟩ := hv
  have hK := hKN.1
  have hx := B.exec
  have hb := B.bytes
  have hr := B.returns
  have hts := fun (w : Cond) (h : w ∈ gt) => atoms_spec (ws := w_St_currentRecord) B.pre w (List.mem_cons_of_mem _ h)
  have hown : s.vm.findClass R_St = some m.cls := findClass_of_methodNamed B.named
  have hlocks := B.notSynchronized
  have hl := lv_entry ([.ref hs]) (n := 3) (Nat.le_of_ble_eq_true rfl)
  rw [lg_entry_eq]
  generalize (lg_sl ([.ref hs]) ++ List.replicate (3 - (lg_sl ([.ref hs])).length) Slot.unset).toArray = ls at hl ⊢
  have hl : lv_has ls 3 [(0, .ref hs)] := hl
  refine lv_aload_n hx hb d_St_currentRecord_0 rfl (lv_at hl 0 rfl) ?_
  refine lv_iconst (v := (nI 0)) hx hb d_St_currentRecord_1 (by decide) ?_
  refine pr_call (va_runV (As := [.int (nI 0)]) (rest := []) ⟨hx, hb, hml, hown, hts⟩ (c_St_isGood l dC dI cI (hs := hs) (k := 0) (hw := hw) (bl := bl) (dn := dn) (lf := lf) (M := M) (hk := (by omega))) ⟨callB_of 1 hts (gd kw_251) rfl rfl rfl (hts _ kw_39) (hts _ kw_248) (by decide +kernel) ⟨Nat.le_of_ble_eq_true rfl, Nat.le_of_ble_eq_true rfl⟩, (hts _ kw_250), (hts _ kw_5)⟩ ⟨fun a U g mk q => by obtain ⟨q0, qP, qK⟩ := q; exact ⟨q0, qP, qK.call⟩, va_recv hK hP (ci := 2) rfl (q0 := 0) rfl, fun U hU hW => ⟨rfl, by rw [hU]; exact hP.sub [0, 1] rfl, hKN.warm hW⟩⟩ rfl rfl hl.1 rfl (lv_room (Nat.le_of_ble_eq_true rfl)) d_St_currentRecord_2 ⟨Nat.zero_le _, Nat.zero_le _⟩) ?_
  refine lv_istore_n (lv' := [(1, .int (bI (good M 0))), (0, .ref hs)]) hx hb d_St_currentRecord_5 rfl hl (by decide) rfl (fun ls hl => ?_)
  refine lv_aload_n hx hb d_St_currentRecord_6 rfl (lv_at hl 1 rfl) ?_
  refine lv_iconst (v := (nI 1)) hx hb d_St_currentRecord_7 (by decide) ?_
  refine pr_call (va_runV (As := [.int (nI 1)]) (rest := []) ⟨hx, hb, hml, hown, hts⟩ (c_St_isGood l dC dI cI (hs := hs) (k := 1) (hw := hw) (bl := bl) (dn := dn) (lf := lf) (M := M) (hk := (by omega))) ⟨callB_of 1 hts (gd kw_251) rfl rfl rfl (hts _ kw_39) (hts _ kw_248) (by decide +kernel) ⟨Nat.le_of_ble_eq_true rfl, Nat.le_of_ble_eq_true rfl⟩, (hts _ kw_250), (hts _ kw_5)⟩ ⟨fun a U g mk q => by obtain ⟨q0, qP, qK⟩ := q; exact ⟨q0, qP, qK.call⟩, va_recv hK hP (ci := 2) rfl (q0 := 0) rfl, fun U hU hW => ⟨rfl, by rw [hU]; exact hP.sub [0, 1] rfl, hKN.warm hW⟩⟩ rfl rfl hl.1 rfl (lv_room (Nat.le_of_ble_eq_true rfl)) d_St_currentRecord_8 ⟨Nat.zero_le _, Nat.zero_le _⟩) ?_
  refine lv_istore_n (lv' := [(2, .int (bI (good M 1))), (1, .int (bI (good M 0))), (0, .ref hs)]) hx hb d_St_currentRecord_11 rfl hl (by decide) rfl (fun ls hl => ?_)
  refine lv_iload_n hx hb d_St_currentRecord_12 rfl (lv_at hl 1 rfl) ?_
  refine bz_eq (tgt := 47) hx hb d_St_currentRecord_13 (by decide) (fun h_1 => ?_) (fun h_1 => ?_)
  · refine lv_iload_n hx hb d_St_currentRecord_47 rfl (lv_at hl 1 rfl) ?_
    refine bz_eq (tgt := 53) hx hb d_St_currentRecord_48 (by decide) (fun h_2 => ?_) (fun h_2 => ?_)
    · refine lv_iload_n hx hb d_St_currentRecord_53 rfl (lv_at hl 0 rfl) ?_
      refine bz_eq (tgt := 61) hx hb d_St_currentRecord_54 (by decide) (fun h_3 => ?_) (fun h_3 => ?_)
      · refine lv_iconst (v := (-1)) hx hb d_St_currentRecord_61 (by decide) ?_
        exact W.iret (v := (-1)) hx hb hr (fun t ht hW => ⟨_, rfl, (by simp [cur, h_1, h_2, h_3]), ht⟩) (fun q h => by cases h) d_St_currentRecord_62
      · refine lv_iconst (v := (nI 1)) hx hb d_St_currentRecord_57 (by decide) ?_
        refine lv_goto (tgt := 62) hx hb d_St_currentRecord_58 (by decide) ?_
        exact W.iret (v := (nI 1)) hx hb hr (fun t ht hW => ⟨_, rfl, (by simp [cur, h_1, h_2, h_3]), ht⟩) (fun q h => by cases h) d_St_currentRecord_62
    · exact absurd (h_1.symm.trans h_2) (by decide)
  · refine lv_iload_n hx hb d_St_currentRecord_16 rfl (lv_at hl 0 rfl) ?_
    refine bz_eq (tgt := 47) hx hb d_St_currentRecord_17 (by decide) (fun h_4 => ?_) (fun h_4 => ?_)
    · refine lv_iload_n hx hb d_St_currentRecord_47 rfl (lv_at hl 1 rfl) ?_
      refine bz_eq (tgt := 53) hx hb d_St_currentRecord_48 (by decide) (fun h_5 => ?_) (fun h_5 => ?_)
      · exact absurd (h_1.symm.trans h_5) (by decide)
      · refine lv_iconst (v := (nI 0)) hx hb d_St_currentRecord_51 (by decide) ?_
        exact W.iret (v := (nI 0)) hx hb hr (fun t ht hW => ⟨_, rfl, (by simp [cur, h_1, h_4, h_5]), ht⟩) (fun q h => by cases h) d_St_currentRecord_52
    · refine lv_aload_n hx hb d_St_currentRecord_20 rfl (lv_at hl 2 rfl) ?_
      refine va_get (D := (dC, dI)) (ci := 2) (v := .ref hw) (C := R_St) (T := F_St) (N := 4) hx hb hts in_St hown hK hP 0 rfl rfl 0 (by decide) (hts _ kw_125) (fun _ h9 => h9) rfl d_St_currentRecord_21 ?_
      refine lv_iconst (v := (nI 1)) hx hb d_St_currentRecord_24 (by decide) ?_
      refine pr_call (va_runS (As := [.int (nI 1)]) (rest := [.ref hw]) ⟨hx, hb, hml, hown, hts⟩ (c_St_recordPlace l dC dI cI (k := 1) ) ⟨callB_of 1 hts (gd kw_254) rfl rfl rfl (hts _ kw_39) (hts _ kw_252) (by decide +kernel) ⟨Nat.le_of_ble_eq_true rfl, Nat.le_of_ble_eq_true rfl⟩, (hts _ kw_253)⟩ ⟨fun a U g mk q => by obtain ⟨q0, qP, qK⟩ := q; exact ⟨q0, qP, qK.call⟩, fun U hU hW => ⟨rfl, by rw [hU]; exact hP.sub [] rfl, hKN.warm hW⟩⟩ rfl rfl hl.1 rfl (lv_room (Nat.le_of_ble_eq_true rfl)) d_St_currentRecord_25 ⟨Nat.zero_le _, Nat.zero_le _⟩) ?_
      refine tp (y := (nI 37)) (by decide) ?_
      refine ar_ld (k := 37) hx hb hK hP 1 0 rfl rfl (by omega) (by first | decide | omega) d_St_currentRecord_28 ?_
      refine lv_aload_n hx hb d_St_currentRecord_29 rfl (lv_at hl 2 rfl) ?_
      refine va_get (D := (dC, dI)) (ci := 2) (v := .ref hw) (C := R_St) (T := F_St) (N := 4) hx hb hts in_St hown hK hP 0 rfl rfl 0 (by decide) (hts _ kw_125) (fun _ h9 => h9) rfl d_St_currentRecord_30 ?_
      refine lv_iconst (v := (nI 0)) hx hb d_St_currentRecord_33 (by decide) ?_
      refine pr_call (va_runS (As := [.int (nI 0)]) (rest := [.ref hw, .int (M 37)]) ⟨hx, hb, hml, hown, hts⟩ (c_St_recordPlace l dC dI cI (k := 0) ) ⟨callB_of 1 hts (gd kw_254) rfl rfl rfl (hts _ kw_39) (hts _ kw_252) (by decide +kernel) ⟨Nat.le_of_ble_eq_true rfl, Nat.le_of_ble_eq_true rfl⟩, (hts _ kw_253)⟩ ⟨fun a U g mk q => by obtain ⟨q0, qP, qK⟩ := q; exact ⟨q0, qP, qK.call⟩, fun U hU hW => ⟨rfl, by rw [hU]; exact hP.sub [] rfl, hKN.warm hW⟩⟩ rfl rfl hl.1 rfl (lv_room (Nat.le_of_ble_eq_true rfl)) d_St_currentRecord_34 ⟨Nat.zero_le _, Nat.zero_le _⟩) ?_
      refine tp (y := (nI 34)) (by decide) ?_
      refine ar_ld (k := 34) hx hb hK hP 1 0 rfl rfl (by omega) (by first | decide | omega) d_St_currentRecord_37 ?_
      refine lv_icmp_le (tgt := 45) hx hb d_St_currentRecord_38 (by decide) (fun h_6 => ?_) (fun h_6 => ?_)
      · refine lv_iconst (v := (nI 0)) hx hb d_St_currentRecord_45 (by decide) ?_
        exact W.iret (v := (nI 0)) hx hb hr (fun t ht hW => ⟨_, rfl, (by simp [cur, h_1, h_4, h_6]), ht⟩) (fun q h => by cases h) d_St_currentRecord_46
      · refine lv_iconst (v := (nI 1)) hx hb d_St_currentRecord_41 (by decide) ?_
        refine lv_goto (tgt := 46) hx hb d_St_currentRecord_42 (by decide) ?_
        exact W.iret (v := (nI 1)) hx hb hr (fun t ht hW => ⟨_, rfl, (by simp [cur, h_1, h_4, h_6]), ht⟩) (fun q h => by cases h) d_St_currentRecord_46
set_option maxHeartbeats 4000000 in
set_option maxRecDepth 100000 in
theorem c_St_entry (l : Launch) (dC : Nat → ClassId) (dI : Nat → Nat → Nat) (cI : ClassId) (hs : Nat) (hw : Nat) (bl : Nat) (dn : Int32) (lf : Int32) (M : Nat → Int32)  : Met l y_St_entry w_St_entry ({ frames := 4, cells := 0, slots := 0, locals := 87 }) (va_Pc [.ref hs] (fun U => va_P (dC, dI) classes [(hs, .inr (2, [.ref hw, .int (nI bl), .int dn, .int lf])), (hw, .inl (cI, 40, .inl M))] U.heap ∧ KN dC dI cI U)) (qr (ety M)) 0 0 (fun _ => False) := by
  refine Met.ofW (cc := b_St_entry) (maxL := 2) (ret := (some .int)) (by decide) rfl ?_
  intro p e s m args below meth c s₁ B hml hv
  obtain ⟨rfl, hP, hKN⟩ := hv
  have hK := hKN.1
  have hx := B.exec
  have hb := B.bytes
  have hr := B.returns
  have hts := fun (w : Cond) (h : w ∈ gt) => atoms_spec (ws := w_St_entry) B.pre w (List.mem_cons_of_mem _ h)
  have hown : s.vm.findClass R_St = some m.cls := findClass_of_methodNamed B.named
  have hlocks := B.notSynchronized
  have hl := lv_entry ([.ref hs]) (n := 2) (Nat.le_of_ble_eq_true rfl)
  rw [lg_entry_eq]
  generalize (lg_sl ([.ref hs]) ++ List.replicate (2 - (lg_sl ([.ref hs])).length) Slot.unset).toArray = ls at hl ⊢
  have hl : lv_has ls 2 [(0, .ref hs)] := hl
  refine lv_aload_n hx hb d_St_entry_0 rfl (lv_at hl 0 rfl) ?_
  refine pr_call (va_runV (As := []) (rest := []) ⟨hx, hb, hml, hown, hts⟩ (c_St_currentRecord l dC dI cI (hs := hs) (hw := hw) (bl := bl) (dn := dn) (lf := lf) (M := M) ) ⟨callB_of 0 hts (gd kw_247) rfl rfl rfl (hts _ kw_39) (hts _ kw_244) (by decide +kernel) ⟨Nat.le_of_ble_eq_true rfl, Nat.le_of_ble_eq_true rfl⟩, (hts _ kw_246), (hts _ kw_4)⟩ ⟨fun a U g mk q => by obtain ⟨q0, qP, qK⟩ := q; exact ⟨q0, qP, qK.call⟩, va_recv hK hP (ci := 2) rfl (q0 := 0) rfl, fun U hU hW => ⟨rfl, by rw [hU]; exact hP.sub [0, 1] rfl, hKN.warm hW⟩⟩ rfl rfl hl.1 rfl (lv_room (Nat.le_of_ble_eq_true rfl)) d_St_entry_1 ⟨Nat.zero_le _, Nat.zero_le _⟩) ?_
  rcases cur_cases M with hc | hc | hc
  · refine tp hc ?_
    refine lv_istore_n (lv' := [(1, .int (-1)), (0, .ref hs)]) hx hb d_St_entry_4 rfl hl (by decide) rfl (fun ls hl => ?_)
    refine lv_iload_n hx hb d_St_entry_5 rfl (lv_at hl 0 rfl) ?_
    refine lv_iconst (v := (-1)) hx hb d_St_entry_6 (by decide) ?_
    refine lv_icmp_ne (tgt := 14) hx hb d_St_entry_7 (by decide) (fun h_1 => ?_) (fun h_1 => ?_)
    · exact absurd h_1 (by decide)
    · refine lv_iconst (v := (nI 0)) hx hb d_St_entry_10 (by decide) ?_
      refine lv_goto (tgt := 25) hx hb d_St_entry_11 (by decide) ?_
      exact W.iret (v := (nI 0)) hx hb hr (fun t ht hW => ⟨_, rfl, (by rw [ety, hc]; rfl), ht⟩) (fun q h => by cases h) d_St_entry_25
  · refine tp hc ?_
    refine lv_istore_n (lv' := [(1, .int (nI 0)), (0, .ref hs)]) hx hb d_St_entry_4 rfl hl (by decide) rfl (fun ls hl => ?_)
    refine lv_iload_n hx hb d_St_entry_5 rfl (lv_at hl 0 rfl) ?_
    refine lv_iconst (v := (-1)) hx hb d_St_entry_6 (by decide) ?_
    refine lv_icmp_ne (tgt := 14) hx hb d_St_entry_7 (by decide) (fun h_2 => ?_) (fun h_2 => ?_)
    · refine lv_aload_n hx hb d_St_entry_14 rfl (lv_at hl 1 rfl) ?_
      refine va_get (D := (dC, dI)) (ci := 2) (v := .ref hw) (C := R_St) (T := F_St) (N := 4) hx hb hts in_St hown hK hP 0 rfl rfl 0 (by decide) (hts _ kw_125) (fun _ h9 => h9) rfl d_St_entry_15 ?_
      refine lv_iload_n hx hb d_St_entry_18 rfl (lv_at hl 0 rfl) ?_
      refine pr_call (va_runS (As := [.int (nI 0)]) (rest := [.ref hw]) ⟨hx, hb, hml, hown, hts⟩ (c_St_recordPlace l dC dI cI (k := 0) ) ⟨callB_of 1 hts (gd kw_254) rfl rfl rfl (hts _ kw_39) (hts _ kw_252) (by decide +kernel) ⟨Nat.le_of_ble_eq_true rfl, Nat.le_of_ble_eq_true rfl⟩, (hts _ kw_253)⟩ ⟨fun a U g mk q => by obtain ⟨q0, qP, qK⟩ := q; exact ⟨q0, qP, qK.call⟩, fun U hU hW => ⟨rfl, by rw [hU]; exact hP.sub [] rfl, hKN.warm hW⟩⟩ rfl rfl hl.1 rfl (lv_room (Nat.le_of_ble_eq_true rfl)) d_St_entry_19 ⟨Nat.zero_le _, Nat.zero_le _⟩) ?_
      refine tp (y := (nI 34)) (by decide) ?_
      refine lv_iconst (v := (nI 1)) hx hb d_St_entry_22 (by decide) ?_
      refine lv_iadd hx hb d_St_entry_23 ?_
      refine tp (y := (nI 35)) (by decide) ?_
      refine ar_ld (k := 35) hx hb hK hP 1 0 rfl rfl (by omega) (by first | decide | omega) d_St_entry_24 ?_
      exact W.iret (v := (M 35)) hx hb hr (fun t ht hW => ⟨_, rfl, (by rw [ety, hc]; rfl), ht⟩) (fun q h => by cases h) d_St_entry_25
    · exact absurd h_2 (by decide)
  · refine tp hc ?_
    refine lv_istore_n (lv' := [(1, .int (nI 1)), (0, .ref hs)]) hx hb d_St_entry_4 rfl hl (by decide) rfl (fun ls hl => ?_)
    refine lv_iload_n hx hb d_St_entry_5 rfl (lv_at hl 0 rfl) ?_
    refine lv_iconst (v := (-1)) hx hb d_St_entry_6 (by decide) ?_
    refine lv_icmp_ne (tgt := 14) hx hb d_St_entry_7 (by decide) (fun h_3 => ?_) (fun h_3 => ?_)
    · refine lv_aload_n hx hb d_St_entry_14 rfl (lv_at hl 1 rfl) ?_
      refine va_get (D := (dC, dI)) (ci := 2) (v := .ref hw) (C := R_St) (T := F_St) (N := 4) hx hb hts in_St hown hK hP 0 rfl rfl 0 (by decide) (hts _ kw_125) (fun _ h9 => h9) rfl d_St_entry_15 ?_
      refine lv_iload_n hx hb d_St_entry_18 rfl (lv_at hl 0 rfl) ?_
      refine pr_call (va_runS (As := [.int (nI 1)]) (rest := [.ref hw]) ⟨hx, hb, hml, hown, hts⟩ (c_St_recordPlace l dC dI cI (k := 1) ) ⟨callB_of 1 hts (gd kw_254) rfl rfl rfl (hts _ kw_39) (hts _ kw_252) (by decide +kernel) ⟨Nat.le_of_ble_eq_true rfl, Nat.le_of_ble_eq_true rfl⟩, (hts _ kw_253)⟩ ⟨fun a U g mk q => by obtain ⟨q0, qP, qK⟩ := q; exact ⟨q0, qP, qK.call⟩, fun U hU hW => ⟨rfl, by rw [hU]; exact hP.sub [] rfl, hKN.warm hW⟩⟩ rfl rfl hl.1 rfl (lv_room (Nat.le_of_ble_eq_true rfl)) d_St_entry_19 ⟨Nat.zero_le _, Nat.zero_le _⟩) ?_
      refine tp (y := (nI 37)) (by decide) ?_
      refine lv_iconst (v := (nI 1)) hx hb d_St_entry_22 (by decide) ?_
      refine lv_iadd hx hb d_St_entry_23 ?_
      refine tp (y := (nI 38)) (by decide) ?_
      refine ar_ld (k := 38) hx hb hK hP 1 0 rfl rfl (by omega) (by first | decide | omega) d_St_entry_24 ?_
      exact W.iret (v := (M 38)) hx hb hr (fun t ht hW => ⟨_, rfl, (by rw [ety, hc]; rfl), ht⟩) (fun q h => by cases h) d_St_entry_25
    · exact absurd h_3 (by decide)
set_option maxHeartbeats 4000000 in
set_option maxRecDepth 100000 in
theorem c_St_mayWrite (l : Launch) (dC : Nat → ClassId) (dI : Nat → Nat → Nat) (cI : ClassId) (hs : Nat) (hw : Nat) (bl : Nat) (dn : Int32) (lf : Int32)  (sz : Nat) : Met l y_St_mayWrite w_St_mayWrite ({ frames := 0, cells := 0, slots := 0, locals := 0 }) (va_Pc [.ref hs] (fun U => U.heap.size = sz ∧ va_P (dC, dI) classes [(hs, .inr (2, [.ref hw, .int (nI bl), .int dn, .int lf]))] U.heap ∧ KN dC dI cI U ∧ va_D (fun _ => True) [(hs, .inr (2, [.ref hw, .int (nI bl), .int dn, .int lf]))])) (va_Qi (fun (r : Int32) (u : Int32 × Int32) => ∃ res : Bool, r = bI res ∧ (pMay dn lf = (res, u))) (fun (u : Int32 × Int32) t => va_P (dC, dI) classes [(hs, .inr (2, [.ref hw, .int (nI bl), .int u.1, .int u.2]))] t.heap ∧ va_D (va_A [(hs, .inr (2, [.ref hw, .int (nI bl), .int dn, .int lf]))] sz) [(hs, .inr (2, [.ref hw, .int (nI bl), .int u.1, .int u.2]))]) (va_A [(hs, .inr (2, [.ref hw, .int (nI bl), .int dn, .int lf]))] sz)) 0 0 (va_A [(hs, .inr (2, [.ref hw, .int (nI bl), .int dn, .int lf]))] sz) := by
  refine Met.ofW (cc := b_St_mayWrite) (maxL := 1) (ret := (some .boolean)) (by decide) rfl ?_
  intro p e s m args below meth c s₁ B hml hv
  obtain ⟨rfl, hsz, hP, hKN, hD0⟩ := hv
  have hK := hKN.1
  have hx := B.exec
  have hb := B.bytes
  have hr := B.returns
  have hts := fun (w : Cond) (h : w ∈ gt) => atoms_spec (ws := w_St_mayWrite) B.pre w (List.mem_cons_of_mem _ h)
  have hown : s.vm.findClass R_St = some m.cls := findClass_of_methodNamed B.named
  have hlocks := B.notSynchronized
  subst hsz
  have hD := hD0.self (sz := s.heap.size)
  generalize hAe : va_A [(hs, .inr (2, [.ref hw, .int (nI bl), .int dn, .int lf]))] s.heap.size = A at hD ⊢
  have hA : ∀ q : Nat, s.heap.size ≤ q → A q := fun q h => by rw [← hAe]; exact Or.inr h
  have hS : va_S A s.heap s.heap [] := va_S.rf
  have hP : va_P (dC, dI) classes [(hs, .inr (2, [.ref hw, .int (nI bl), .int dn, .int lf]))] s.heap := hP
  clear hAe hD0
  have hl := lv_entry ([.ref hs]) (n := 1) (Nat.le_of_ble_eq_true rfl)
  rw [lg_entry_eq]
  generalize (lg_sl ([.ref hs]) ++ List.replicate (1 - (lg_sl ([.ref hs])).length) Slot.unset).toArray = ls at hl ⊢
  have hl : lv_has ls 1 [(0, .ref hs)] := hl
  refine lv_aload_n hx hb d_St_mayWrite_0 rfl (lv_at hl 0 rfl) ?_
  refine va_get (D := (dC, dI)) (ci := 2) (v := .int lf) (C := R_St) (T := F_St) (N := 4) hx hb hts in_St hown hK hP 0 rfl rfl 3 (by decide) (hts _ kw_131) (fun _ h9 => h9) rfl d_St_mayWrite_1 ?_
  refine lv_if_ne (tgt := 14) hx hb d_St_mayWrite_4 (by decide) (fun h_1 => ?_) (fun h_1 => ?_)
  · refine lv_aload_n hx hb d_St_mayWrite_14 rfl (lv_at hl 0 rfl) ?_
    refine va_get (D := (dC, dI)) (ci := 2) (v := .int lf) (C := R_St) (T := F_St) (N := 4) hx hb hts in_St hown hK hP 0 rfl rfl 3 (by decide) (hts _ kw_131) (fun _ h9 => h9) rfl d_St_mayWrite_15 ?_
    refine lv_if_le (tgt := 31) hx hb d_St_mayWrite_18 (by decide) (fun h_2 => ?_) (fun h_2 => ?_)
    · refine lv_aload_n hx hb d_St_mayWrite_31 rfl (lv_at hl 0 rfl) ?_
      refine lv_dup hx hb d_St_mayWrite_32 rfl ?_
      refine va_get (D := (dC, dI)) (ci := 2) (v := .int dn) (C := R_St) (T := F_St) (N := 4) hx hb hts in_St hown hK hP 0 rfl rfl 2 (by decide) (hts _ kw_129) (fun _ h9 => h9) rfl d_St_mayWrite_33 ?_
      refine lv_iconst (v := (nI 1)) hx hb d_St_mayWrite_36 (by decide) ?_
      refine lv_iadd hx hb d_St_mayWrite_37 ?_
      refine va_put (D := (dC, dI)) (ci := 2) (v := .int (dn + (nI 1))) (ty := .int) (C := R_St) (T := F_St) (N := 4) hx hb hts in_St t_St t_St_ok n_St hown hK hP hD hS 0 rfl rfl 2 (by decide) (hts _ kw_129) (fun _ h9 => h9) rfl (by decide +kernel) rfl rfl (Nat.le_of_ble_eq_true rfl) d_St_mayWrite_38 (fun H locs hP hD hS => ?_)
      have hP : va_P (dC, dI) classes [(hs, .inr (2, [.ref hw, .int (nI bl), .int (dn + (nI 1)), .int lf]))] H := hP
      have hD : va_D A [(hs, .inr (2, [.ref hw, .int (nI bl), .int (dn + (nI 1)), .int lf]))] := hD
      refine lv_iconst (v := (nI 1)) hx hb d_St_mayWrite_41 (by decide) ?_
      exact W.zret (v := (bI true)) hx hb hr (bI_narrow _) (fun t ht hW => ⟨⟨_, (dn + (nI 1), lf), rfl, ⟨true, rfl, (by first | rfl | (simp only [pMay, if_neg h_1, if_pos h_2]; done) | (simp only [pMay, if_neg h_1, if_pos h_2]; rfl) | (simp [pMay, h_1, h_2]; done))⟩, by rw [ht]; exact hP, hD⟩, hS.F ht⟩) hS.2.2 d_St_mayWrite_42
    · refine lv_aload_n hx hb d_St_mayWrite_21 rfl (lv_at hl 0 rfl) ?_
      refine lv_dup hx hb d_St_mayWrite_22 rfl ?_
      refine va_get (D := (dC, dI)) (ci := 2) (v := .int lf) (C := R_St) (T := F_St) (N := 4) hx hb hts in_St hown hK hP 0 rfl rfl 3 (by decide) (hts _ kw_131) (fun _ h9 => h9) rfl d_St_mayWrite_23 ?_
      refine lv_iconst (v := (nI 1)) hx hb d_St_mayWrite_26 (by decide) ?_
      refine lv_isub hx hb d_St_mayWrite_27 ?_
      refine va_put (D := (dC, dI)) (ci := 2) (v := .int (lf - (nI 1))) (ty := .int) (C := R_St) (T := F_St) (N := 4) hx hb hts in_St t_St t_St_ok n_St hown hK hP hD hS 0 rfl rfl 3 (by decide) (hts _ kw_131) (fun _ h9 => h9) rfl (by decide +kernel) rfl rfl (Nat.le_of_ble_eq_true rfl) d_St_mayWrite_28 (fun H locs hP hD hS => ?_)
      have hP : va_P (dC, dI) classes [(hs, .inr (2, [.ref hw, .int (nI bl), .int dn, .int (lf - (nI 1))]))] H := hP
      have hD : va_D A [(hs, .inr (2, [.ref hw, .int (nI bl), .int dn, .int (lf - (nI 1))]))] := hD
      refine lv_aload_n hx hb d_St_mayWrite_31 rfl (lv_at hl 0 rfl) ?_
      refine lv_dup hx hb d_St_mayWrite_32 rfl ?_
      refine va_get (D := (dC, dI)) (ci := 2) (v := .int dn) (C := R_St) (T := F_St) (N := 4) hx hb hts in_St hown hK hP 0 rfl rfl 2 (by decide) (hts _ kw_129) (fun _ h9 => h9) rfl d_St_mayWrite_33 ?_
      refine lv_iconst (v := (nI 1)) hx hb d_St_mayWrite_36 (by decide) ?_
      refine lv_iadd hx hb d_St_mayWrite_37 ?_
      refine va_put (D := (dC, dI)) (ci := 2) (v := .int (dn + (nI 1))) (ty := .int) (C := R_St) (T := F_St) (N := 4) hx hb hts in_St t_St t_St_ok n_St hown hK hP hD hS 0 rfl rfl 2 (by decide) (hts _ kw_129) (fun _ h9 => h9) rfl (by decide +kernel) rfl rfl (Nat.le_of_ble_eq_true rfl) d_St_mayWrite_38 (fun H locs hP hD hS => ?_)
      have hP : va_P (dC, dI) classes [(hs, .inr (2, [.ref hw, .int (nI bl), .int (dn + (nI 1)), .int (lf - (nI 1))]))] H := hP
      have hD : va_D A [(hs, .inr (2, [.ref hw, .int (nI bl), .int (dn + (nI 1)), .int (lf - (nI 1))]))] := hD
      refine lv_iconst (v := (nI 1)) hx hb d_St_mayWrite_41 (by decide) ?_
      exact W.zret (v := (bI true)) hx hb hr (bI_narrow _) (fun t ht hW => ⟨⟨_, (dn + (nI 1), lf - (nI 1)), rfl, ⟨true, rfl, (by first | rfl | (simp only [pMay, if_neg h_1, if_neg h_2]; done) | (simp only [pMay, if_neg h_1, if_neg h_2]; rfl) | (simp [pMay, h_1, h_2]; done))⟩, by rw [ht]; exact hP, hD⟩, hS.F ht⟩) hS.2.2 d_St_mayWrite_42
  · refine lv_aload_n hx hb d_St_mayWrite_7 rfl (lv_at hl 0 rfl) ?_
    refine lv_iconst (v := (-1)) hx hb d_St_mayWrite_8 (by decide) ?_
    refine va_put (D := (dC, dI)) (ci := 2) (v := .int (-1)) (ty := .int) (C := R_St) (T := F_St) (N := 4) hx hb hts in_St t_St t_St_ok n_St hown hK hP hD hS 0 rfl rfl 3 (by decide) (hts _ kw_131) (fun _ h9 => h9) rfl (by decide +kernel) rfl rfl (Nat.le_of_ble_eq_true rfl) d_St_mayWrite_9 (fun H locs hP hD hS => ?_)
    have hP : va_P (dC, dI) classes [(hs, .inr (2, [.ref hw, .int (nI bl), .int dn, .int (-1)]))] H := hP
    have hD : va_D A [(hs, .inr (2, [.ref hw, .int (nI bl), .int dn, .int (-1)]))] := hD
    refine lv_iconst (v := (nI 0)) hx hb d_St_mayWrite_12 (by decide) ?_
    exact W.zret (v := (bI false)) hx hb hr (bI_narrow _) (fun t ht hW => ⟨⟨_, (dn, (-1)), rfl, ⟨false, rfl, (by first | rfl | (simp only [pMay, if_pos h_1]; done) | (simp only [pMay, if_pos h_1]; rfl) | (simp [pMay, h_1]; done))⟩, by rw [ht]; exact hP, hD⟩, hS.F ht⟩) hS.2.2 d_St_mayWrite_13
set_option maxHeartbeats 4000000 in
set_option maxRecDepth 100000 in
theorem c_St_put (l : Launch) (dC : Nat → ClassId) (dI : Nat → Nat → Nat) (cI : ClassId) (hs : Nat) (k : Nat) (x : Int32) (hw : Nat) (bl : Nat) (dn : Int32) (lf : Int32) (M : Nat → Int32) (hk : k < 40) (sz : Nat) : Met l y_St_put w_St_put ({ frames := 1, cells := 0, slots := 0, locals := 20 }) (va_Pc [.ref hs, .int (nI k), .int x] (fun U => U.heap.size = sz ∧ va_P (dC, dI) classes [(hs, .inr (2, [.ref hw, .int (nI bl), .int dn, .int lf])), (hw, .inl (cI, 40, .inl M))] U.heap ∧ KN dC dI cI U ∧ va_D (fun _ => True) [(hs, .inr (2, [.ref hw, .int (nI bl), .int dn, .int lf])), (hw, .inl (cI, 40, .inl M))])) (va_Qi (fun (r : Int32) (u : (Nat → Int32) × Int32 × Int32) => ∃ res : Bool, r = bI res ∧ (pPut M dn lf k x = (res, u))) (fun (u : (Nat → Int32) × Int32 × Int32) t => va_P (dC, dI) classes [(hs, .inr (2, [.ref hw, .int (nI bl), .int u.2.1, .int u.2.2])), (hw, .inl (cI, 40, .inl u.1))] t.heap ∧ va_D (va_A [(hs, .inr (2, [.ref hw, .int (nI bl), .int dn, .int lf])), (hw, .inl (cI, 40, .inl M))] sz) [(hs, .inr (2, [.ref hw, .int (nI bl), .int u.2.1, .int u.2.2])), (hw, .inl (cI, 40, .inl u.1))]) (va_A [(hs, .inr (2, [.ref hw, .int (nI bl), .int dn, .int lf])), (hw, .inl (cI, 40, .inl M))] sz)) 0 0 (va_A [(hs, .inr (2, [.ref hw, .int (nI bl), .int dn, .int lf])), (hw, .inl (cI, 40, .inl M))] sz) := by
  refine Met.ofW (cc := b_St_put) (maxL := 3) (ret := (some .boolean)) (by decide) rfl ?_
  intro p e s m args below meth c s₁ B hml hv
  obtain ⟨rfl, hsz, hP, hKN, hD0⟩ := hv
  have hK := hKN.1
  have hx := B.exec
  have hb := B.bytes
  have hr := B.returns
  have hts := fun (w : Cond) (h : w ∈ gt) => atoms_spec (ws := w_St_put) B.pre w (List.mem_cons_of_mem _ h)
  have hown : s.vm.findClass R_St = some m.cls := findClass_of_methodNamed B.named
  have hlocks := B.notSynchronized
  subst hsz
  have hD := hD0.self (sz := s.heap.size)
  generalize hAe : va_A [(hs, .inr (2, [.ref hw, .int (nI bl), .int dn, .int lf])), (hw, .inl (cI, 40, .inl M))] s.heap.size = A at hD ⊢
  have hA : ∀ q : Nat, s.heap.size ≤ q → A q := fun q h => by rw [← hAe]; exact Or.inr h
  have hS : va_S A s.heap s.heap [] := va_S.rf
  have hP : va_P (dC, dI) classes [(hs, .inr (2, [.ref hw, .int (nI bl), .int dn, .int lf])), (hw, .inl (cI, 40, .inl M))] s.heap := hP
  clear hAe hD0
  have hl := lv_entry ([.ref hs, .int (nI k), .int x]) (n := 3) (Nat.le_of_ble_eq_true rfl)
  rw [lg_entry_eq]
  generalize (lg_sl ([.ref hs, .int (nI k), .int x]) ++ List.replicate (3 - (lg_sl ([.ref hs, .int (nI k), .int x])).length) Slot.unset).toArray = ls at hl ⊢
  have hl : lv_has ls 3 [(0, .ref hs), (1, .int (nI k)), (2, .int x)] := hl
  refine lv_aload_n hx hb d_St_put_0 rfl (lv_at hl 0 rfl) ?_
  have hPc := hP.sub (ws' := [(hs, .inr (2, [.ref hw, .int (nI bl), .int dn, .int lf]))]) [0] rfl
  have hDc := hD.sub (ws' := [(hs, .inr (2, [.ref hw, .int (nI bl), .int dn, .int lf]))]) [0] (by decide) rfl
  have hFc := va_free (wc := [(hs, .inr (2, [.ref hw, .int (nI bl), .int dn, .int lf]))]) hD hS hA [0] rfl
  refine va_calli (va_runV (As := []) (rest := []) ⟨hx, hb, hml, hown, hts⟩ (c_St_mayWrite l dC dI cI (hs := hs) (hw := hw) (bl := bl) (dn := dn) (lf := lf)  (sz := s.heap.size)) ⟨callB_of 0 hts (gd kw_282) rfl rfl rfl (hts _ kw_39) (hts _ kw_279) (by decide +kernel) ⟨Nat.le_of_ble_eq_true rfl, Nat.le_of_ble_eq_true rfl⟩, (hts _ kw_281), (hts _ kw_8)⟩ ⟨fun a U g mk q => by obtain ⟨q0, q1, qP, qK, qD⟩ := q; exact ⟨q0, q1, qP, qK.call, qD⟩, va_recv hK hP (ci := 2) rfl (q0 := 0) rfl, fun U hU hW => ⟨rfl, by rw [hU], by rw [hU]; exact hPc, hKN.warm hW, hDc.weaken (fun _ _ _ _ => trivial)⟩⟩ rfl rfl hl.1 rfl (lv_room (Nat.le_of_ble_eq_true rfl)) d_St_put_1 ⟨Nat.zero_le _, Nat.zero_le _⟩) hS (fun q _ h => hFc q h) hFc (fun r u t H1 locs ht hvm hw hB hz1 hk1 hS => ?_)
  obtain ⟨dn_1, lf_1⟩ := u
  obtain ⟨b_1, rfl, hu_1⟩ := hw
  obtain ⟨hP1, hD1⟩ := hB
  rw [ht] at hP1
  have hP1 : va_P (dC, dI) classes [(hs, .inr (2, [.ref hw, .int (nI bl), .int dn_1, .int lf_1]))] H1 := hP1
  obtain ⟨hP, hD⟩ := va_join (wc := [(hs, .inr (2, [.ref hw, .int (nI bl), .int dn, .int lf]))]) (wr := [(hw, .inl (cI, 40, .inl M))]) (w1 := [(hs, .inr (2, [.ref hw, .int (nI bl), .int dn_1, .int lf_1]))]) hP hD [0] [1] rfl rfl (by decide) (by decide) hk1 hFc hP1 hD1
  generalize H1 = H at hP hS ⊢
  have hP : va_P (dC, dI) classes [(hs, .inr (2, [.ref hw, .int (nI bl), .int dn_1, .int lf_1])), (hw, .inl (cI, 40, .inl M))] H := hP.sub [1, 0] rfl
  have hD : va_D A [(hs, .inr (2, [.ref hw, .int (nI bl), .int dn_1, .int lf_1])), (hw, .inl (cI, 40, .inl M))] := hD.sub [1, 0] (by decide) rfl
  clear hPc hDc hFc hP1 hD1 hk1 hz1 hvm ht
  refine bz_ne (tgt := 9) hx hb d_St_put_4 (by decide) (fun h_2 => ?_) (fun h_2 => ?_)
  · subst h_2
    refine lv_aload_n hx hb d_St_put_9 rfl (lv_at hl 0 rfl) ?_
    refine va_get (D := (dC, dI)) (ci := 2) (v := .ref hw) (C := R_St) (T := F_St) (N := 4) hx hb hts in_St hown hK hP 0 rfl rfl 0 (by decide) (hts _ kw_125) (fun _ h9 => h9) rfl d_St_put_10 ?_
    refine lv_iload_n hx hb d_St_put_13 rfl (lv_at hl 1 rfl) ?_
    refine lv_iload_n hx hb d_St_put_14 rfl (lv_at hl 2 rfl) ?_
    refine ar_st (k := k) hx hb hK hP hD hS 1 0 rfl rfl (by omega) (by first | decide | omega) d_St_put_15 (fun H locs hP hD hS => ?_)
    have hP : va_P (dC, dI) classes [(hs, .inr (2, [.ref hw, .int (nI bl), .int dn_1, .int lf_1])), (hw, .inl (cI, 40, .inl (upd M k x)))] H := hP
    have hD : va_D A [(hs, .inr (2, [.ref hw, .int (nI bl), .int dn_1, .int lf_1])), (hw, .inl (cI, 40, .inl (upd M k x)))] := hD
    refine lv_iconst (v := (nI 1)) hx hb d_St_put_16 (by decide) ?_
    exact W.zret (v := (bI true)) hx hb hr (bI_narrow _) (fun t ht hW => ⟨⟨_, (upd M k x, dn_1, lf_1), rfl, ⟨true, rfl, (by first | rfl | (simp only [pPut, hu_1]; done) | (simp only [pPut, hu_1]; rfl) | (simp [pPut, hu_1]; done))⟩, by rw [ht]; exact hP, hD⟩, hS.F ht⟩) hS.2.2 d_St_put_17
  · subst h_2
    refine lv_iconst (v := (nI 0)) hx hb d_St_put_7 (by decide) ?_
    exact W.zret (v := (bI false)) hx hb hr (bI_narrow _) (fun t ht hW => ⟨⟨_, (M, dn_1, lf_1), rfl, ⟨false, rfl, (by first | rfl | (simp only [pPut, hu_1]; done) | (simp only [pPut, hu_1]; rfl) | (simp [pPut, hu_1]; done))⟩, by rw [ht]; exact hP, hD⟩, hS.F ht⟩) hS.2.2 d_St_put_8
set_option maxHeartbeats 4000000 in
set_option maxRecDepth 100000 in
theorem c_St_writeTable (l : Launch) (dC : Nat → ClassId) (dI : Nat → Nat → Nat) (cI : ClassId) (hs : Nat) (en : Int32) (hw : Nat) (bl : Nat) (dn : Int32) (lf : Int32) (M : Nat → Int32)  (sz : Nat) : Met l y_St_writeTable w_St_writeTable ({ frames := 4, cells := 0, slots := 0, locals := 87 }) (va_Pc [.ref hs, .int en] (fun U => U.heap.size = sz ∧ va_P (dC, dI) classes [(hs, .inr (2, [.ref hw, .int (nI bl), .int dn, .int lf])), (hw, .inl (cI, 40, .inl M))] U.heap ∧ KN dC dI cI U ∧ va_D (fun _ => True) [(hs, .inr (2, [.ref hw, .int (nI bl), .int dn, .int lf])), (hw, .inl (cI, 40, .inl M))])) (va_Qi (fun (r : Int32) (u : (Nat → Int32) × Int32 × Int32) => ∃ res : Bool, r = bI res ∧ (pTab M dn lf en = (res, u))) (fun (u : (Nat → Int32) × Int32 × Int32) t => va_P (dC, dI) classes [(hs, .inr (2, [.ref hw, .int (nI bl), .int u.2.1, .int u.2.2])), (hw, .inl (cI, 40, .inl u.1))] t.heap ∧ va_D (va_A [(hs, .inr (2, [.ref hw, .int (nI bl), .int dn, .int lf])), (hw, .inl (cI, 40, .inl M))] sz) [(hs, .inr (2, [.ref hw, .int (nI bl), .int u.2.1, .int u.2.2])), (hw, .inl (cI, 40, .inl u.1))]) (va_A [(hs, .inr (2, [.ref hw, .int (nI bl), .int dn, .int lf])), (hw, .inl (cI, 40, .inl M))] sz)) 0 0 (va_A [(hs, .inr (2, [.ref hw, .int (nI bl), .int dn, .int lf])), (hw, .inl (cI, 40, .inl M))] sz) := by
  refine Met.ofW (cc := b_St_writeTable) (maxL := 6) (ret := (some .boolean)) (by decide) rfl ?_
  intro p e s m args below meth c s₁ B hml hv
  obtain ⟨rfl, hsz, hP, hKN, hD0⟩ := hv
  have hK := hKN.1
  have hx := B.exec
  have hb := B.bytes
  have hr := B.returns
  have hts := fun (w : Cond) (h : w ∈ gt) => atoms_spec (ws := w_St_writeTable) B.pre w (List.mem_cons_of_mem _ h)
  have hown : s.vm.findClass R_St = some m.cls := findClass_of_methodNamed B.named
  have hlocks := B.notSynchronized
  subst hsz
  have hD := hD0.self (sz := s.heap.size)
  generalize hAe : va_A [(hs, .inr (2, [.ref hw, .int (nI bl), .int dn, .int lf])), (hw, .inl (cI, 40, .inl M))] s.heap.size = A at hD ⊢
  have hA : ∀ q : Nat, s.heap.size ≤ q → A q := fun q h => by rw [← hAe]; exact Or.inr h
  have hS : va_S A s.heap s.heap [] := va_S.rf
  have hP : va_P (dC, dI) classes [(hs, .inr (2, [.ref hw, .int (nI bl), .int dn, .int lf])), (hw, .inl (cI, 40, .inl M))] s.heap := hP
  clear hAe hD0
  have hl := lv_entry ([.ref hs, .int en]) (n := 6) (Nat.le_of_ble_eq_true rfl)
  rw [lg_entry_eq]
  generalize (lg_sl ([.ref hs, .int en]) ++ List.replicate (6 - (lg_sl ([.ref hs, .int en])).length) Slot.unset).toArray = ls at hl ⊢
  have hl : lv_has ls 6 [(0, .ref hs), (1, .int en)] := hl
  refine lv_aload_n hx hb d_St_writeTable_0 rfl (lv_at hl 0 rfl) ?_
  refine pr_call (va_runV (As := []) (rest := []) ⟨hx, hb, hml, hown, hts⟩ (c_St_currentRecord l dC dI cI (hs := hs) (hw := hw) (bl := bl) (dn := dn) (lf := lf) (M := M) ) ⟨callB_of 0 hts (gd kw_247) rfl rfl rfl (hts _ kw_39) (hts _ kw_244) (by decide +kernel) ⟨Nat.le_of_ble_eq_true rfl, Nat.le_of_ble_eq_true rfl⟩, (hts _ kw_246), (hts _ kw_4)⟩ ⟨fun a U g mk q => by obtain ⟨q0, qP, qK⟩ := q; exact ⟨q0, qP, qK.call⟩, va_recv hK hP (ci := 2) rfl (q0 := 0) rfl, fun U hU hW => ⟨rfl, by rw [hU]; exact hP.sub [0, 1] rfl, hKN.warm hW⟩⟩ rfl rfl hl.1 rfl (lv_room (Nat.le_of_ble_eq_true rfl)) d_St_writeTable_1 ⟨Nat.zero_le _, Nat.zero_le _⟩) ?_
  rcases cur_cases M with hc | hc | hc
  · refine tp hc ?_
    refine lv_istore_n (lv' := [(2, .int (-1)), (0, .ref hs), (1, .int en)]) hx hb d_St_writeTable_4 rfl hl (by decide) rfl (fun ls hl => ?_)
    refine lv_iload_n hx hb d_St_writeTable_5 rfl (lv_at hl 0 rfl) ?_
    refine lv_iconst (v := (-1)) hx hb d_St_writeTable_6 (by decide) ?_
    refine lv_icmp_ne (tgt := 14) hx hb d_St_writeTable_7 (by decide) (fun h_1 => ?_) (fun h_1 => ?_)
    · exact absurd h_1 (by decide)
    · refine lv_iconst (v := (nI 1)) hx hb d_St_writeTable_10 (by decide) ?_
      refine lv_goto (tgt := 25) hx hb d_St_writeTable_11 (by decide) ?_
      refine lv_istore_n (lv' := [(3, .int (nI 1)), (2, .int (-1)), (0, .ref hs), (1, .int en)]) hx hb d_St_writeTable_25 rfl hl (by decide) rfl (fun ls hl => ?_)
      refine lv_iload_n hx hb d_St_writeTable_26 rfl (lv_at hl 1 rfl) ?_
      refine lv_if_ne (tgt := 34) hx hb d_St_writeTable_27 (by decide) (fun h_2 => ?_) (fun h_2 => ?_)
      · refine lv_iconst (v := (nI 0)) hx hb d_St_writeTable_34 (by decide) ?_
        refine pr_call (va_runS (As := [.int (nI 0)]) (rest := []) ⟨hx, hb, hml, hown, hts⟩ (c_St_recordPlace l dC dI cI (k := 0) ) ⟨callB_of 1 hts (gd kw_254) rfl rfl rfl (hts _ kw_39) (hts _ kw_252) (by decide +kernel) ⟨Nat.le_of_ble_eq_true rfl, Nat.le_of_ble_eq_true rfl⟩, (hts _ kw_253)⟩ ⟨fun a U g mk q => by obtain ⟨q0, qP, qK⟩ := q; exact ⟨q0, qP, qK.call⟩, fun U hU hW => ⟨rfl, by rw [hU]; exact hP.sub [] rfl, hKN.warm hW⟩⟩ rfl rfl hl.1 rfl (lv_room (Nat.le_of_ble_eq_true rfl)) d_St_writeTable_35 ⟨Nat.zero_le _, Nat.zero_le _⟩) ?_
        refine tp (y := (nI 34)) (by decide) ?_
        refine lv_istore (lv' := [(4, .int (nI 34)), (3, .int (nI 1)), (2, .int (-1)), (0, .ref hs), (1, .int en)]) hx hb d_St_writeTable_38 hl (by decide) rfl (fun ls hl => ?_)
        refine lv_iload_n hx hb d_St_writeTable_40 rfl (lv_at hl 4 rfl) ?_
        refine lv_bipush (v := (nI 31)) hx hb d_St_writeTable_41 (by decide) ?_
        refine lv_iand hx hb d_St_writeTable_43 ?_
        refine lv_istore (lv' := [(5, .int (en &&& (nI 31))), (4, .int (nI 34)), (3, .int (nI 1)), (2, .int (-1)), (0, .ref hs), (1, .int en)]) hx hb d_St_writeTable_44 hl (by decide) rfl (fun ls hl => ?_)
        refine lv_aload_n hx hb d_St_writeTable_46 rfl (lv_at hl 4 rfl) ?_
        refine lv_iload hx hb d_St_writeTable_47 (lv_at hl 1 rfl) ?_
        refine lv_iload_n hx hb d_St_writeTable_49 rfl (lv_at hl 2 rfl) ?_
        have hPc := hP.sub (ws' := [(hs, .inr (2, [.ref hw, .int (nI bl), .int dn, .int lf])), (hw, .inl (cI, 40, .inl M))]) [0, 1] rfl
        have hDc := hD.sub (ws' := [(hs, .inr (2, [.ref hw, .int (nI bl), .int dn, .int lf])), (hw, .inl (cI, 40, .inl M))]) [0, 1] (by decide) rfl
        have hFc := va_free (wc := [(hs, .inr (2, [.ref hw, .int (nI bl), .int dn, .int lf])), (hw, .inl (cI, 40, .inl M))]) hD hS hA [0, 1] rfl
        refine va_calli (va_runV (As := [.int (nI 34), .int (nI 1)]) (rest := []) ⟨hx, hb, hml, hown, hts⟩ (c_St_put l dC dI cI (hs := hs) (k := 34) (x := (nI 1)) (hw := hw) (bl := bl) (dn := dn) (lf := lf) (M := M) (hk := (by omega)) (sz := s.heap.size)) ⟨callB_of 2 hts (gd kw_278) rfl rfl rfl (hts _ kw_39) (hts _ kw_275) (by decide +kernel) ⟨Nat.le_of_ble_eq_true rfl, Nat.le_of_ble_eq_true rfl⟩, (hts _ kw_277), (hts _ kw_7)⟩ ⟨fun a U g mk q => by obtain ⟨q0, q1, qP, qK, qD⟩ := q; exact ⟨q0, q1, qP, qK.call, qD⟩, va_recv hK hP (ci := 2) rfl (q0 := 0) rfl, fun U hU hW => ⟨rfl, by rw [hU], by rw [hU]; exact hPc, hKN.warm hW, hDc.weaken (fun _ _ _ _ => trivial)⟩⟩ rfl rfl hl.1 rfl (lv_room (Nat.le_of_ble_eq_true rfl)) d_St_writeTable_50 ⟨Nat.zero_le _, Nat.zero_le _⟩) hS (fun q _ h => hFc q h) hFc (fun r u t H1 locs ht hvm hw hB hz1 hk1 hS => ?_)
        obtain ⟨M_3, dn_3, lf_3⟩ := u
        obtain ⟨b_3, rfl, hu_3⟩ := hw
        obtain ⟨hP1, hD1⟩ := hB
        rw [ht] at hP1
        have hP1 : va_P (dC, dI) classes [(hs, .inr (2, [.ref hw, .int (nI bl), .int dn_3, .int lf_3])), (hw, .inl (cI, 40, .inl M_3))] H1 := hP1
        obtain ⟨hP, hD⟩ := va_join (wc := [(hs, .inr (2, [.ref hw, .int (nI bl), .int dn, .int lf])), (hw, .inl (cI, 40, .inl M))]) (wr := []) (w1 := [(hs, .inr (2, [.ref hw, .int (nI bl), .int dn_3, .int lf_3])), (hw, .inl (cI, 40, .inl M_3))]) hP hD [0, 1] [] rfl rfl (by decide) (by decide) hk1 hFc hP1 hD1
        generalize H1 = H at hP hS ⊢
        have hP : va_P (dC, dI) classes [(hs, .inr (2, [.ref hw, .int (nI bl), .int dn_3, .int lf_3])), (hw, .inl (cI, 40, .inl M_3))] H := hP.sub [0, 1] rfl
        have hD : va_D A [(hs, .inr (2, [.ref hw, .int (nI bl), .int dn_3, .int lf_3])), (hw, .inl (cI, 40, .inl M_3))] := hD.sub [0, 1] (by decide) rfl
        clear hPc hDc hFc hP1 hD1 hk1 hz1 hvm ht
        refine bz_eq (tgt := 90) hx hb d_St_writeTable_53 (by decide) (fun h_4 => ?_) (fun h_4 => ?_)
        · subst h_4
          refine lv_iconst (v := (nI 0)) hx hb d_St_writeTable_90 (by decide) ?_
          exact W.zret (v := (bI false)) hx hb hr (bI_narrow _) (fun t ht hW => ⟨⟨_, (M_3, dn_3, lf_3), rfl, ⟨false, rfl, (by simp only [pTab, srlC_m hc, plcN_m hc, tab3, sq, Nat.reduceAdd, hu_3])⟩, by rw [ht]; exact hP, hD⟩, hS.F ht⟩) hS.2.2 d_St_writeTable_91
        · subst h_4
          refine lv_aload_n hx hb d_St_writeTable_56 rfl (lv_at hl 4 rfl) ?_
          refine lv_iload hx hb d_St_writeTable_57 (lv_at hl 1 rfl) ?_
          refine lv_iconst (v := (nI 1)) hx hb d_St_writeTable_59 (by decide) ?_
          refine lv_iadd hx hb d_St_writeTable_60 ?_
          refine tp (y := (nI 35)) (by decide) ?_
          refine lv_iload hx hb d_St_writeTable_61 (lv_at hl 0 rfl) ?_
          have hPc := hP.sub (ws' := [(hs, .inr (2, [.ref hw, .int (nI bl), .int dn_3, .int lf_3])), (hw, .inl (cI, 40, .inl M_3))]) [0, 1] rfl
          have hDc := hD.sub (ws' := [(hs, .inr (2, [.ref hw, .int (nI bl), .int dn_3, .int lf_3])), (hw, .inl (cI, 40, .inl M_3))]) [0, 1] (by decide) rfl
          have hFc := va_free (wc := [(hs, .inr (2, [.ref hw, .int (nI bl), .int dn_3, .int lf_3])), (hw, .inl (cI, 40, .inl M_3))]) hD hS hA [0, 1] rfl
          refine va_calli (va_runV (As := [.int (nI 35), .int (en &&& (nI 31))]) (rest := []) ⟨hx, hb, hml, hown, hts⟩ (c_St_put l dC dI cI (hs := hs) (k := 35) (x := en &&& (nI 31)) (hw := hw) (bl := bl) (dn := dn_3) (lf := lf_3) (M := M_3) (hk := (by omega)) (sz := H.size)) ⟨callB_of 2 hts (gd kw_278) rfl rfl rfl (hts _ kw_39) (hts _ kw_275) (by decide +kernel) ⟨Nat.le_of_ble_eq_true rfl, Nat.le_of_ble_eq_true rfl⟩, (hts _ kw_277), (hts _ kw_7)⟩ ⟨fun a U g mk q => by obtain ⟨q0, q1, qP, qK, qD⟩ := q; exact ⟨q0, q1, qP, qK.call, qD⟩, va_recv hK hP (ci := 2) rfl (q0 := 0) rfl, fun U hU hW => ⟨rfl, by rw [hU], by rw [hU]; exact hPc, hKN.warm hW, hDc.weaken (fun _ _ _ _ => trivial)⟩⟩ rfl rfl hl.1 rfl (lv_room (Nat.le_of_ble_eq_true rfl)) d_St_writeTable_63 ⟨Nat.zero_le _, Nat.zero_le _⟩) hS (fun q _ h => hFc q h) hFc (fun r u t H1 locs ht hvm hw hB hz1 hk1 hS => ?_)
          obtain ⟨M_5, dn_5, lf_5⟩ := u
          obtain ⟨b_5, rfl, hu_5⟩ := hw
          obtain ⟨hP1, hD1⟩ := hB
          rw [ht] at hP1
          have hP1 : va_P (dC, dI) classes [(hs, .inr (2, [.ref hw, .int (nI bl), .int dn_5, .int lf_5])), (hw, .inl (cI, 40, .inl M_5))] H1 := hP1
          obtain ⟨hP, hD⟩ := va_join (wc := [(hs, .inr (2, [.ref hw, .int (nI bl), .int dn_3, .int lf_3])), (hw, .inl (cI, 40, .inl M_3))]) (wr := []) (w1 := [(hs, .inr (2, [.ref hw, .int (nI bl), .int dn_5, .int lf_5])), (hw, .inl (cI, 40, .inl M_5))]) hP hD [0, 1] [] rfl rfl (by decide) (by decide) hk1 hFc hP1 hD1
          generalize H1 = H at hP hS ⊢
          have hP : va_P (dC, dI) classes [(hs, .inr (2, [.ref hw, .int (nI bl), .int dn_5, .int lf_5])), (hw, .inl (cI, 40, .inl M_5))] H := hP.sub [0, 1] rfl
          have hD : va_D A [(hs, .inr (2, [.ref hw, .int (nI bl), .int dn_5, .int lf_5])), (hw, .inl (cI, 40, .inl M_5))] := hD.sub [0, 1] (by decide) rfl
          clear hPc hDc hFc hP1 hD1 hk1 hz1 hvm ht
          refine bz_eq (tgt := 90) hx hb d_St_writeTable_66 (by decide) (fun h_6 => ?_) (fun h_6 => ?_)
          · subst h_6
            refine lv_iconst (v := (nI 0)) hx hb d_St_writeTable_90 (by decide) ?_
            exact W.zret (v := (bI false)) hx hb hr (bI_narrow _) (fun t ht hW => ⟨⟨_, (M_5, dn_5, lf_5), rfl, ⟨false, rfl, (by simp only [pTab, srlC_m hc, plcN_m hc, tab3, sq, Nat.reduceAdd, hu_3, hu_5])⟩, by rw [ht]; exact hP, hD⟩, hS.F ht⟩) hS.2.2 d_St_writeTable_91
          · subst h_6
            refine lv_aload_n hx hb d_St_writeTable_69 rfl (lv_at hl 4 rfl) ?_
            refine lv_iload hx hb d_St_writeTable_70 (lv_at hl 1 rfl) ?_
            refine lv_iconst (v := (nI 2)) hx hb d_St_writeTable_72 (by decide) ?_
            refine lv_iadd hx hb d_St_writeTable_73 ?_
            refine tp (y := (nI 36)) (by decide) ?_
            refine lv_iload_n hx hb d_St_writeTable_74 rfl (lv_at hl 2 rfl) ?_
            refine lv_iload hx hb d_St_writeTable_75 (lv_at hl 0 rfl) ?_
            refine pr_call (va_runS (As := [.int (nI 1), .int (en &&& (nI 31))]) (rest := [.int (nI 36), .ref hs]) ⟨hx, hb, hml, hown, hts⟩ (c_St_check l dC dI cI (a := (nI 1)) (b := en &&& (nI 31)) ) ⟨callB_of 2 hts (gd kw_123) rfl rfl rfl (hts _ kw_39) (hts _ kw_121) (by decide +kernel) ⟨Nat.le_of_ble_eq_true rfl, Nat.le_of_ble_eq_true rfl⟩, (hts _ kw_122)⟩ ⟨fun a U g mk q => by obtain ⟨q0, qP, qK⟩ := q; exact ⟨q0, qP, qK.call⟩, fun U hU hW => ⟨rfl, by rw [hU]; exact hP.sub [] rfl, hKN.warm hW⟩⟩ rfl rfl hl.1 rfl (lv_room (Nat.le_of_ble_eq_true rfl)) d_St_writeTable_77 ⟨Nat.zero_le _, Nat.zero_le _⟩) ?_
            have hPc := hP.sub (ws' := [(hs, .inr (2, [.ref hw, .int (nI bl), .int dn_5, .int lf_5])), (hw, .inl (cI, 40, .inl M_5))]) [0, 1] rfl
            have hDc := hD.sub (ws' := [(hs, .inr (2, [.ref hw, .int (nI bl), .int dn_5, .int lf_5])), (hw, .inl (cI, 40, .inl M_5))]) [0, 1] (by decide) rfl
            have hFc := va_free (wc := [(hs, .inr (2, [.ref hw, .int (nI bl), .int dn_5, .int lf_5])), (hw, .inl (cI, 40, .inl M_5))]) hD hS hA [0, 1] rfl
            refine va_calli (va_runV (As := [.int (nI 36), .int (ck (nI 1) (en &&& (nI 31)))]) (rest := []) ⟨hx, hb, hml, hown, hts⟩ (c_St_put l dC dI cI (hs := hs) (k := 36) (x := ck (nI 1) (en &&& (nI 31))) (hw := hw) (bl := bl) (dn := dn_5) (lf := lf_5) (M := M_5) (hk := (by omega)) (sz := H.size)) ⟨callB_of 2 hts (gd kw_278) rfl rfl rfl (hts _ kw_39) (hts _ kw_275) (by decide +kernel) ⟨Nat.le_of_ble_eq_true rfl, Nat.le_of_ble_eq_true rfl⟩, (hts _ kw_277), (hts _ kw_7)⟩ ⟨fun a U g mk q => by obtain ⟨q0, q1, qP, qK, qD⟩ := q; exact ⟨q0, q1, qP, qK.call, qD⟩, va_recv hK hP (ci := 2) rfl (q0 := 0) rfl, fun U hU hW => ⟨rfl, by rw [hU], by rw [hU]; exact hPc, hKN.warm hW, hDc.weaken (fun _ _ _ _ => trivial)⟩⟩ rfl rfl hl.1 rfl (lv_room (Nat.le_of_ble_eq_true rfl)) d_St_writeTable_80 ⟨Nat.zero_le _, Nat.zero_le _⟩) hS (fun q _ h => hFc q h) hFc (fun r u t H1 locs ht hvm hw hB hz1 hk1 hS => ?_)
            obtain ⟨M_7, dn_7, lf_7⟩ := u
            obtain ⟨b_7, rfl, hu_7⟩ := hw
            obtain ⟨hP1, hD1⟩ := hB
            rw [ht] at hP1
            have hP1 : va_P (dC, dI) classes [(hs, .inr (2, [.ref hw, .int (nI bl), .int dn_7, .int lf_7])), (hw, .inl (cI, 40, .inl M_7))] H1 := hP1
            obtain ⟨hP, hD⟩ := va_join (wc := [(hs, .inr (2, [.ref hw, .int (nI bl), .int dn_5, .int lf_5])), (hw, .inl (cI, 40, .inl M_5))]) (wr := []) (w1 := [(hs, .inr (2, [.ref hw, .int (nI bl), .int dn_7, .int lf_7])), (hw, .inl (cI, 40, .inl M_7))]) hP hD [0, 1] [] rfl rfl (by decide) (by decide) hk1 hFc hP1 hD1
            generalize H1 = H at hP hS ⊢
            have hP : va_P (dC, dI) classes [(hs, .inr (2, [.ref hw, .int (nI bl), .int dn_7, .int lf_7])), (hw, .inl (cI, 40, .inl M_7))] H := hP.sub [0, 1] rfl
            have hD : va_D A [(hs, .inr (2, [.ref hw, .int (nI bl), .int dn_7, .int lf_7])), (hw, .inl (cI, 40, .inl M_7))] := hD.sub [0, 1] (by decide) rfl
            clear hPc hDc hFc hP1 hD1 hk1 hz1 hvm ht
            refine bz_eq (tgt := 90) hx hb d_St_writeTable_83 (by decide) (fun h_8 => ?_) (fun h_8 => ?_)
            · subst h_8
              refine lv_iconst (v := (nI 0)) hx hb d_St_writeTable_90 (by decide) ?_
              exact W.zret (v := (bI false)) hx hb hr (bI_narrow _) (fun t ht hW => ⟨⟨_, (M_7, dn_7, lf_7), rfl, ⟨false, rfl, (by simp only [pTab, srlC_m hc, plcN_m hc, tab3, sq, Nat.reduceAdd, hu_3, hu_5, hu_7])⟩, by rw [ht]; exact hP, hD⟩, hS.F ht⟩) hS.2.2 d_St_writeTable_91
            · subst h_8
              refine lv_iconst (v := (nI 1)) hx hb d_St_writeTable_86 (by decide) ?_
              refine lv_goto (tgt := 91) hx hb d_St_writeTable_87 (by decide) ?_
              exact W.zret (v := (bI true)) hx hb hr (bI_narrow _) (fun t ht hW => ⟨⟨_, (M_7, dn_7, lf_7), rfl, ⟨true, rfl, (by simp only [pTab, srlC_m hc, plcN_m hc, tab3, sq, Nat.reduceAdd, hu_3, hu_5, hu_7])⟩, by rw [ht]; exact hP, hD⟩, hS.F ht⟩) hS.2.2 d_St_writeTable_91
      · exact absurd h_2 (by decide)
  · refine tp hc ?_
    refine lv_istore_n (lv' := [(2, .int (nI 0)), (0, .ref hs), (1, .int en)]) hx hb d_St_writeTable_4 rfl hl (by decide) rfl (fun ls hl => ?_)
    refine lv_iload_n hx hb d_St_writeTable_5 rfl (lv_at hl 0 rfl) ?_
    refine lv_iconst (v := (-1)) hx hb d_St_writeTable_6 (by decide) ?_
    refine lv_icmp_ne (tgt := 14) hx hb d_St_writeTable_7 (by decide) (fun h_9 => ?_) (fun h_9 => ?_)
    · refine lv_aload_n hx hb d_St_writeTable_14 rfl (lv_at hl 1 rfl) ?_
      refine va_get (D := (dC, dI)) (ci := 2) (v := .ref hw) (C := R_St) (T := F_St) (N := 4) hx hb hts in_St hown hK hP 0 rfl rfl 0 (by decide) (hts _ kw_125) (fun _ h9 => h9) rfl d_St_writeTable_15 ?_
      refine lv_iload_n hx hb d_St_writeTable_18 rfl (lv_at hl 0 rfl) ?_
      refine pr_call (va_runS (As := [.int (nI 0)]) (rest := [.ref hw]) ⟨hx, hb, hml, hown, hts⟩ (c_St_recordPlace l dC dI cI (k := 0) ) ⟨callB_of 1 hts (gd kw_254) rfl rfl rfl (hts _ kw_39) (hts _ kw_252) (by decide +kernel) ⟨Nat.le_of_ble_eq_true rfl, Nat.le_of_ble_eq_true rfl⟩, (hts _ kw_253)⟩ ⟨fun a U g mk q => by obtain ⟨q0, qP, qK⟩ := q; exact ⟨q0, qP, qK.call⟩, fun U hU hW => ⟨rfl, by rw [hU]; exact hP.sub [] rfl, hKN.warm hW⟩⟩ rfl rfl hl.1 rfl (lv_room (Nat.le_of_ble_eq_true rfl)) d_St_writeTable_19 ⟨Nat.zero_le _, Nat.zero_le _⟩) ?_
      refine tp (y := (nI 34)) (by decide) ?_
      refine ar_ld (k := 34) hx hb hK hP 1 0 rfl rfl (by omega) (by first | decide | omega) d_St_writeTable_22 ?_
      refine lv_iconst (v := (nI 1)) hx hb d_St_writeTable_23 (by decide) ?_
      refine lv_iadd hx hb d_St_writeTable_24 ?_
      refine lv_istore_n (lv' := [(3, .int ((M 34) + (nI 1))), (2, .int (nI 0)), (0, .ref hs), (1, .int en)]) hx hb d_St_writeTable_25 rfl hl (by decide) rfl (fun ls hl => ?_)
      refine lv_iload_n hx hb d_St_writeTable_26 rfl (lv_at hl 1 rfl) ?_
      refine nz_ne (tgt := 34) hx hb d_St_writeTable_27 (by decide) (by decide) (fun h_10 => ?_) (fun h_10 => ?_)
      · exact absurd h_10 (by decide)
      · refine lv_iconst (v := (nI 1)) hx hb d_St_writeTable_30 (by decide) ?_
        refine lv_goto (tgt := 35) hx hb d_St_writeTable_31 (by decide) ?_
        refine pr_call (va_runS (As := [.int (nI 1)]) (rest := []) ⟨hx, hb, hml, hown, hts⟩ (c_St_recordPlace l dC dI cI (k := 1) ) ⟨callB_of 1 hts (gd kw_254) rfl rfl rfl (hts _ kw_39) (hts _ kw_252) (by decide +kernel) ⟨Nat.le_of_ble_eq_true rfl, Nat.le_of_ble_eq_true rfl⟩, (hts _ kw_253)⟩ ⟨fun a U g mk q => by obtain ⟨q0, qP, qK⟩ := q; exact ⟨q0, qP, qK.call⟩, fun U hU hW => ⟨rfl, by rw [hU]; exact hP.sub [] rfl, hKN.warm hW⟩⟩ rfl rfl hl.1 rfl (lv_room (Nat.le_of_ble_eq_true rfl)) d_St_writeTable_35 ⟨Nat.zero_le _, Nat.zero_le _⟩) ?_
        refine tp (y := (nI 37)) (by decide) ?_
        refine lv_istore (lv' := [(4, .int (nI 37)), (3, .int ((M 34) + (nI 1))), (2, .int (nI 0)), (0, .ref hs), (1, .int en)]) hx hb d_St_writeTable_38 hl (by decide) rfl (fun ls hl => ?_)
        refine lv_iload_n hx hb d_St_writeTable_40 rfl (lv_at hl 4 rfl) ?_
        refine lv_bipush (v := (nI 31)) hx hb d_St_writeTable_41 (by decide) ?_
        refine lv_iand hx hb d_St_writeTable_43 ?_
        refine lv_istore (lv' := [(5, .int (en &&& (nI 31))), (4, .int (nI 37)), (3, .int ((M 34) + (nI 1))), (2, .int (nI 0)), (0, .ref hs), (1, .int en)]) hx hb d_St_writeTable_44 hl (by decide) rfl (fun ls hl => ?_)
        refine lv_aload_n hx hb d_St_writeTable_46 rfl (lv_at hl 4 rfl) ?_
        refine lv_iload hx hb d_St_writeTable_47 (lv_at hl 1 rfl) ?_
        refine lv_iload_n hx hb d_St_writeTable_49 rfl (lv_at hl 2 rfl) ?_
        have hPc := hP.sub (ws' := [(hs, .inr (2, [.ref hw, .int (nI bl), .int dn, .int lf])), (hw, .inl (cI, 40, .inl M))]) [0, 1] rfl
        have hDc := hD.sub (ws' := [(hs, .inr (2, [.ref hw, .int (nI bl), .int dn, .int lf])), (hw, .inl (cI, 40, .inl M))]) [0, 1] (by decide) rfl
        have hFc := va_free (wc := [(hs, .inr (2, [.ref hw, .int (nI bl), .int dn, .int lf])), (hw, .inl (cI, 40, .inl M))]) hD hS hA [0, 1] rfl
        refine va_calli (va_runV (As := [.int (nI 37), .int ((M 34) + (nI 1))]) (rest := []) ⟨hx, hb, hml, hown, hts⟩ (c_St_put l dC dI cI (hs := hs) (k := 37) (x := (M 34) + (nI 1)) (hw := hw) (bl := bl) (dn := dn) (lf := lf) (M := M) (hk := (by omega)) (sz := s.heap.size)) ⟨callB_of 2 hts (gd kw_278) rfl rfl rfl (hts _ kw_39) (hts _ kw_275) (by decide +kernel) ⟨Nat.le_of_ble_eq_true rfl, Nat.le_of_ble_eq_true rfl⟩, (hts _ kw_277), (hts _ kw_7)⟩ ⟨fun a U g mk q => by obtain ⟨q0, q1, qP, qK, qD⟩ := q; exact ⟨q0, q1, qP, qK.call, qD⟩, va_recv hK hP (ci := 2) rfl (q0 := 0) rfl, fun U hU hW => ⟨rfl, by rw [hU], by rw [hU]; exact hPc, hKN.warm hW, hDc.weaken (fun _ _ _ _ => trivial)⟩⟩ rfl rfl hl.1 rfl (lv_room (Nat.le_of_ble_eq_true rfl)) d_St_writeTable_50 ⟨Nat.zero_le _, Nat.zero_le _⟩) hS (fun q _ h => hFc q h) hFc (fun r u t H1 locs ht hvm hw hB hz1 hk1 hS => ?_)
        obtain ⟨M_11, dn_11, lf_11⟩ := u
        obtain ⟨b_11, rfl, hu_11⟩ := hw
        obtain ⟨hP1, hD1⟩ := hB
        rw [ht] at hP1
        have hP1 : va_P (dC, dI) classes [(hs, .inr (2, [.ref hw, .int (nI bl), .int dn_11, .int lf_11])), (hw, .inl (cI, 40, .inl M_11))] H1 := hP1
        obtain ⟨hP, hD⟩ := va_join (wc := [(hs, .inr (2, [.ref hw, .int (nI bl), .int dn, .int lf])), (hw, .inl (cI, 40, .inl M))]) (wr := []) (w1 := [(hs, .inr (2, [.ref hw, .int (nI bl), .int dn_11, .int lf_11])), (hw, .inl (cI, 40, .inl M_11))]) hP hD [0, 1] [] rfl rfl (by decide) (by decide) hk1 hFc hP1 hD1
        generalize H1 = H at hP hS ⊢
        have hP : va_P (dC, dI) classes [(hs, .inr (2, [.ref hw, .int (nI bl), .int dn_11, .int lf_11])), (hw, .inl (cI, 40, .inl M_11))] H := hP.sub [0, 1] rfl
        have hD : va_D A [(hs, .inr (2, [.ref hw, .int (nI bl), .int dn_11, .int lf_11])), (hw, .inl (cI, 40, .inl M_11))] := hD.sub [0, 1] (by decide) rfl
        clear hPc hDc hFc hP1 hD1 hk1 hz1 hvm ht
        refine bz_eq (tgt := 90) hx hb d_St_writeTable_53 (by decide) (fun h_12 => ?_) (fun h_12 => ?_)
        · subst h_12
          refine lv_iconst (v := (nI 0)) hx hb d_St_writeTable_90 (by decide) ?_
          exact W.zret (v := (bI false)) hx hb hr (bI_narrow _) (fun t ht hW => ⟨⟨_, (M_11, dn_11, lf_11), rfl, ⟨false, rfl, (by simp only [pTab, srlC_0 hc, plcN_0 hc, tab3, sq, Nat.reduceAdd, hu_11])⟩, by rw [ht]; exact hP, hD⟩, hS.F ht⟩) hS.2.2 d_St_writeTable_91
        · subst h_12
          refine lv_aload_n hx hb d_St_writeTable_56 rfl (lv_at hl 4 rfl) ?_
          refine lv_iload hx hb d_St_writeTable_57 (lv_at hl 1 rfl) ?_
          refine lv_iconst (v := (nI 1)) hx hb d_St_writeTable_59 (by decide) ?_
          refine lv_iadd hx hb d_St_writeTable_60 ?_
          refine tp (y := (nI 38)) (by decide) ?_
          refine lv_iload hx hb d_St_writeTable_61 (lv_at hl 0 rfl) ?_
          have hPc := hP.sub (ws' := [(hs, .inr (2, [.ref hw, .int (nI bl), .int dn_11, .int lf_11])), (hw, .inl (cI, 40, .inl M_11))]) [0, 1] rfl
          have hDc := hD.sub (ws' := [(hs, .inr (2, [.ref hw, .int (nI bl), .int dn_11, .int lf_11])), (hw, .inl (cI, 40, .inl M_11))]) [0, 1] (by decide) rfl
          have hFc := va_free (wc := [(hs, .inr (2, [.ref hw, .int (nI bl), .int dn_11, .int lf_11])), (hw, .inl (cI, 40, .inl M_11))]) hD hS hA [0, 1] rfl
          refine va_calli (va_runV (As := [.int (nI 38), .int (en &&& (nI 31))]) (rest := []) ⟨hx, hb, hml, hown, hts⟩ (c_St_put l dC dI cI (hs := hs) (k := 38) (x := en &&& (nI 31)) (hw := hw) (bl := bl) (dn := dn_11) (lf := lf_11) (M := M_11) (hk := (by omega)) (sz := H.size)) ⟨callB_of 2 hts (gd kw_278) rfl rfl rfl (hts _ kw_39) (hts _ kw_275) (by decide +kernel) ⟨Nat.le_of_ble_eq_true rfl, Nat.le_of_ble_eq_true rfl⟩, (hts _ kw_277), (hts _ kw_7)⟩ ⟨fun a U g mk q => by obtain ⟨q0, q1, qP, qK, qD⟩ := q; exact ⟨q0, q1, qP, qK.call, qD⟩, va_recv hK hP (ci := 2) rfl (q0 := 0) rfl, fun U hU hW => ⟨rfl, by rw [hU], by rw [hU]; exact hPc, hKN.warm hW, hDc.weaken (fun _ _ _ _ => trivial)⟩⟩ rfl rfl hl.1 rfl (lv_room (Nat.le_of_ble_eq_true rfl)) d_St_writeTable_63 ⟨Nat.zero_le _, Nat.zero_le _⟩) hS (fun q _ h => hFc q h) hFc (fun r u t H1 locs ht hvm hw hB hz1 hk1 hS => ?_)
          obtain ⟨M_13, dn_13, lf_13⟩ := u
          obtain ⟨b_13, rfl, hu_13⟩ := hw
          obtain ⟨hP1, hD1⟩ := hB
          rw [ht] at hP1
          have hP1 : va_P (dC, dI) classes [(hs, .inr (2, [.ref hw, .int (nI bl), .int dn_13, .int lf_13])), (hw, .inl (cI, 40, .inl M_13))] H1 := hP1
          obtain ⟨hP, hD⟩ := va_join (wc := [(hs, .inr (2, [.ref hw, .int (nI bl), .int dn_11, .int lf_11])), (hw, .inl (cI, 40, .inl M_11))]) (wr := []) (w1 := [(hs, .inr (2, [.ref hw, .int (nI bl), .int dn_13, .int lf_13])), (hw, .inl (cI, 40, .inl M_13))]) hP hD [0, 1] [] rfl rfl (by decide) (by decide) hk1 hFc hP1 hD1
          generalize H1 = H at hP hS ⊢
          have hP : va_P (dC, dI) classes [(hs, .inr (2, [.ref hw, .int (nI bl), .int dn_13, .int lf_13])), (hw, .inl (cI, 40, .inl M_13))] H := hP.sub [0, 1] rfl
          have hD : va_D A [(hs, .inr (2, [.ref hw, .int (nI bl), .int dn_13, .int lf_13])), (hw, .inl (cI, 40, .inl M_13))] := hD.sub [0, 1] (by decide) rfl
          clear hPc hDc hFc hP1 hD1 hk1 hz1 hvm ht
          refine bz_eq (tgt := 90) hx hb d_St_writeTable_66 (by decide) (fun h_14 => ?_) (fun h_14 => ?_)
          · subst h_14
            refine lv_iconst (v := (nI 0)) hx hb d_St_writeTable_90 (by decide) ?_
            exact W.zret (v := (bI false)) hx hb hr (bI_narrow _) (fun t ht hW => ⟨⟨_, (M_13, dn_13, lf_13), rfl, ⟨false, rfl, (by simp only [pTab, srlC_0 hc, plcN_0 hc, tab3, sq, Nat.reduceAdd, hu_11, hu_13])⟩, by rw [ht]; exact hP, hD⟩, hS.F ht⟩) hS.2.2 d_St_writeTable_91
          · subst h_14
            refine lv_aload_n hx hb d_St_writeTable_69 rfl (lv_at hl 4 rfl) ?_
            refine lv_iload hx hb d_St_writeTable_70 (lv_at hl 1 rfl) ?_
            refine lv_iconst (v := (nI 2)) hx hb d_St_writeTable_72 (by decide) ?_
            refine lv_iadd hx hb d_St_writeTable_73 ?_
            refine tp (y := (nI 39)) (by decide) ?_
            refine lv_iload_n hx hb d_St_writeTable_74 rfl (lv_at hl 2 rfl) ?_
            refine lv_iload hx hb d_St_writeTable_75 (lv_at hl 0 rfl) ?_
            refine pr_call (va_runS (As := [.int ((M 34) + (nI 1)), .int (en &&& (nI 31))]) (rest := [.int (nI 39), .ref hs]) ⟨hx, hb, hml, hown, hts⟩ (c_St_check l dC dI cI (a := (M 34) + (nI 1)) (b := en &&& (nI 31)) ) ⟨callB_of 2 hts (gd kw_123) rfl rfl rfl (hts _ kw_39) (hts _ kw_121) (by decide +kernel) ⟨Nat.le_of_ble_eq_true rfl, Nat.le_of_ble_eq_true rfl⟩, (hts _ kw_122)⟩ ⟨fun a U g mk q => by obtain ⟨q0, qP, qK⟩ := q; exact ⟨q0, qP, qK.call⟩, fun U hU hW => ⟨rfl, by rw [hU]; exact hP.sub [] rfl, hKN.warm hW⟩⟩ rfl rfl hl.1 rfl (lv_room (Nat.le_of_ble_eq_true rfl)) d_St_writeTable_77 ⟨Nat.zero_le _, Nat.zero_le _⟩) ?_
            have hPc := hP.sub (ws' := [(hs, .inr (2, [.ref hw, .int (nI bl), .int dn_13, .int lf_13])), (hw, .inl (cI, 40, .inl M_13))]) [0, 1] rfl
            have hDc := hD.sub (ws' := [(hs, .inr (2, [.ref hw, .int (nI bl), .int dn_13, .int lf_13])), (hw, .inl (cI, 40, .inl M_13))]) [0, 1] (by decide) rfl
            have hFc := va_free (wc := [(hs, .inr (2, [.ref hw, .int (nI bl), .int dn_13, .int lf_13])), (hw, .inl (cI, 40, .inl M_13))]) hD hS hA [0, 1] rfl
            refine va_calli (va_runV (As := [.int (nI 39), .int (ck ((M 34) + (nI 1)) (en &&& (nI 31)))]) (rest := []) ⟨hx, hb, hml, hown, hts⟩ (c_St_put l dC dI cI (hs := hs) (k := 39) (x := ck ((M 34) + (nI 1)) (en &&& (nI 31))) (hw := hw) (bl := bl) (dn := dn_13) (lf := lf_13) (M := M_13) (hk := (by omega)) (sz := H.size)) ⟨callB_of 2 hts (gd kw_278) rfl rfl rfl (hts _ kw_39) (hts _ kw_275) (by decide +kernel) ⟨Nat.le_of_ble_eq_true rfl, Nat.le_of_ble_eq_true rfl⟩, (hts _ kw_277), (hts _ kw_7)⟩ ⟨fun a U g mk q => by obtain ⟨q0, q1, qP, qK, qD⟩ := q; exact ⟨q0, q1, qP, qK.call, qD⟩, va_recv hK hP (ci := 2) rfl (q0 := 0) rfl, fun U hU hW => ⟨rfl, by rw [hU], by rw [hU]; exact hPc, hKN.warm hW, hDc.weaken (fun _ _ _ _ => trivial)⟩⟩ rfl rfl hl.1 rfl (lv_room (Nat.le_of_ble_eq_true rfl)) d_St_writeTable_80 ⟨Nat.zero_le _, Nat.zero_le _⟩) hS (fun q _ h => hFc q h) hFc (fun r u t H1 locs ht hvm hw hB hz1 hk1 hS => ?_)
            obtain ⟨M_15, dn_15, lf_15⟩ := u
            obtain ⟨b_15, rfl, hu_15⟩ := hw
            obtain ⟨hP1, hD1⟩ := hB
            rw [ht] at hP1
            have hP1 : va_P (dC, dI) classes [(hs, .inr (2, [.ref hw, .int (nI bl), .int dn_15, .int lf_15])), (hw, .inl (cI, 40, .inl M_15))] H1 := hP1
            obtain ⟨hP, hD⟩ := va_join (wc := [(hs, .inr (2, [.ref hw, .int (nI bl), .int dn_13, .int lf_13])), (hw, .inl (cI, 40, .inl M_13))]) (wr := []) (w1 := [(hs, .inr (2, [.ref hw, .int (nI bl), .int dn_15, .int lf_15])), (hw, .inl (cI, 40, .inl M_15))]) hP hD [0, 1] [] rfl rfl (by decide) (by decide) hk1 hFc hP1 hD1
            generalize H1 = H at hP hS ⊢
            have hP : va_P (dC, dI) classes [(hs, .inr (2, [.ref hw, .int (nI bl), .int dn_15, .int lf_15])), (hw, .inl (cI, 40, .inl M_15))] H := hP.sub [0, 1] rfl
            have hD : va_D A [(hs, .inr (2, [.ref hw, .int (nI bl), .int dn_15, .int lf_15])), (hw, .inl (cI, 40, .inl M_15))] := hD.sub [0, 1] (by decide) rfl
            clear hPc hDc hFc hP1 hD1 hk1 hz1 hvm ht
            refine bz_eq (tgt := 90) hx hb d_St_writeTable_83 (by decide) (fun h_16 => ?_) (fun h_16 => ?_)
            · subst h_16
              refine lv_iconst (v := (nI 0)) hx hb d_St_writeTable_90 (by decide) ?_
              exact W.zret (v := (bI false)) hx hb hr (bI_narrow _) (fun t ht hW => ⟨⟨_, (M_15, dn_15, lf_15), rfl, ⟨false, rfl, (by simp only [pTab, srlC_0 hc, plcN_0 hc, tab3, sq, Nat.reduceAdd, hu_11, hu_13, hu_15])⟩, by rw [ht]; exact hP, hD⟩, hS.F ht⟩) hS.2.2 d_St_writeTable_91
            · subst h_16
              refine lv_iconst (v := (nI 1)) hx hb d_St_writeTable_86 (by decide) ?_
              refine lv_goto (tgt := 91) hx hb d_St_writeTable_87 (by decide) ?_
              exact W.zret (v := (bI true)) hx hb hr (bI_narrow _) (fun t ht hW => ⟨⟨_, (M_15, dn_15, lf_15), rfl, ⟨true, rfl, (by simp only [pTab, srlC_0 hc, plcN_0 hc, tab3, sq, Nat.reduceAdd, hu_11, hu_13, hu_15])⟩, by rw [ht]; exact hP, hD⟩, hS.F ht⟩) hS.2.2 d_St_writeTable_91
    · exact absurd h_9 (by decide)
  · refine tp hc ?_
    refine lv_istore_n (lv' := [(2, .int (nI 1)), (0, .ref hs), (1, .int en)]) hx hb d_St_writeTable_4 rfl hl (by decide) rfl (fun ls hl => ?_)
    refine lv_iload_n hx hb d_St_writeTable_5 rfl (lv_at hl 0 rfl) ?_
    refine lv_iconst (v := (-1)) hx hb d_St_writeTable_6 (by decide) ?_
    refine lv_icmp_ne (tgt := 14) hx hb d_St_writeTable_7 (by decide) (fun h_17 => ?_) (fun h_17 => ?_)
    · refine lv_aload_n hx hb d_St_writeTable_14 rfl (lv_at hl 1 rfl) ?_
      refine va_get (D := (dC, dI)) (ci := 2) (v := .ref hw) (C := R_St) (T := F_St) (N := 4) hx hb hts in_St hown hK hP 0 rfl rfl 0 (by decide) (hts _ kw_125) (fun _ h9 => h9) rfl d_St_writeTable_15 ?_
      refine lv_iload_n hx hb d_St_writeTable_18 rfl (lv_at hl 0 rfl) ?_
      refine pr_call (va_runS (As := [.int (nI 1)]) (rest := [.ref hw]) ⟨hx, hb, hml, hown, hts⟩ (c_St_recordPlace l dC dI cI (k := 1) ) ⟨callB_of 1 hts (gd kw_254) rfl rfl rfl (hts _ kw_39) (hts _ kw_252) (by decide +kernel) ⟨Nat.le_of_ble_eq_true rfl, Nat.le_of_ble_eq_true rfl⟩, (hts _ kw_253)⟩ ⟨fun a U g mk q => by obtain ⟨q0, qP, qK⟩ := q; exact ⟨q0, qP, qK.call⟩, fun U hU hW => ⟨rfl, by rw [hU]; exact hP.sub [] rfl, hKN.warm hW⟩⟩ rfl rfl hl.1 rfl (lv_room (Nat.le_of_ble_eq_true rfl)) d_St_writeTable_19 ⟨Nat.zero_le _, Nat.zero_le _⟩) ?_
      refine tp (y := (nI 37)) (by decide) ?_
      refine ar_ld (k := 37) hx hb hK hP 1 0 rfl rfl (by omega) (by first | decide | omega) d_St_writeTable_22 ?_
      refine lv_iconst (v := (nI 1)) hx hb d_St_writeTable_23 (by decide) ?_
      refine lv_iadd hx hb d_St_writeTable_24 ?_
      refine lv_istore_n (lv' := [(3, .int ((M 37) + (nI 1))), (2, .int (nI 1)), (0, .ref hs), (1, .int en)]) hx hb d_St_writeTable_25 rfl hl (by decide) rfl (fun ls hl => ?_)
      refine lv_iload_n hx hb d_St_writeTable_26 rfl (lv_at hl 1 rfl) ?_
      refine nz_ne (tgt := 34) hx hb d_St_writeTable_27 (by decide) (by decide) (fun h_18 => ?_) (fun h_18 => ?_)
      · refine lv_iconst (v := (nI 0)) hx hb d_St_writeTable_34 (by decide) ?_
        refine pr_call (va_runS (As := [.int (nI 0)]) (rest := []) ⟨hx, hb, hml, hown, hts⟩ (c_St_recordPlace l dC dI cI (k := 0) ) ⟨callB_of 1 hts (gd kw_254) rfl rfl rfl (hts _ kw_39) (hts _ kw_252) (by decide +kernel) ⟨Nat.le_of_ble_eq_true rfl, Nat.le_of_ble_eq_true rfl⟩, (hts _ kw_253)⟩ ⟨fun a U g mk q => by obtain ⟨q0, qP, qK⟩ := q; exact ⟨q0, qP, qK.call⟩, fun U hU hW => ⟨rfl, by rw [hU]; exact hP.sub [] rfl, hKN.warm hW⟩⟩ rfl rfl hl.1 rfl (lv_room (Nat.le_of_ble_eq_true rfl)) d_St_writeTable_35 ⟨Nat.zero_le _, Nat.zero_le _⟩) ?_
        refine tp (y := (nI 34)) (by decide) ?_
        refine lv_istore (lv' := [(4, .int (nI 34)), (3, .int ((M 37) + (nI 1))), (2, .int (nI 1)), (0, .ref hs), (1, .int en)]) hx hb d_St_writeTable_38 hl (by decide) rfl (fun ls hl => ?_)
        refine lv_iload_n hx hb d_St_writeTable_40 rfl (lv_at hl 4 rfl) ?_
        refine lv_bipush (v := (nI 31)) hx hb d_St_writeTable_41 (by decide) ?_
        refine lv_iand hx hb d_St_writeTable_43 ?_
        refine lv_istore (lv' := [(5, .int (en &&& (nI 31))), (4, .int (nI 34)), (3, .int ((M 37) + (nI 1))), (2, .int (nI 1)), (0, .ref hs), (1, .int en)]) hx hb d_St_writeTable_44 hl (by decide) rfl (fun ls hl => ?_)
        refine lv_aload_n hx hb d_St_writeTable_46 rfl (lv_at hl 4 rfl) ?_
        refine lv_iload hx hb d_St_writeTable_47 (lv_at hl 1 rfl) ?_
        refine lv_iload_n hx hb d_St_writeTable_49 rfl (lv_at hl 2 rfl) ?_
        have hPc := hP.sub (ws' := [(hs, .inr (2, [.ref hw, .int (nI bl), .int dn, .int lf])), (hw, .inl (cI, 40, .inl M))]) [0, 1] rfl
        have hDc := hD.sub (ws' := [(hs, .inr (2, [.ref hw, .int (nI bl), .int dn, .int lf])), (hw, .inl (cI, 40, .inl M))]) [0, 1] (by decide) rfl
        have hFc := va_free (wc := [(hs, .inr (2, [.ref hw, .int (nI bl), .int dn, .int lf])), (hw, .inl (cI, 40, .inl M))]) hD hS hA [0, 1] rfl
        refine va_calli (va_runV (As := [.int (nI 34), .int ((M 37) + (nI 1))]) (rest := []) ⟨hx, hb, hml, hown, hts⟩ (c_St_put l dC dI cI (hs := hs) (k := 34) (x := (M 37) + (nI 1)) (hw := hw) (bl := bl) (dn := dn) (lf := lf) (M := M) (hk := (by omega)) (sz := s.heap.size)) ⟨callB_of 2 hts (gd kw_278) rfl rfl rfl (hts _ kw_39) (hts _ kw_275) (by decide +kernel) ⟨Nat.le_of_ble_eq_true rfl, Nat.le_of_ble_eq_true rfl⟩, (hts _ kw_277), (hts _ kw_7)⟩ ⟨fun a U g mk q => by obtain ⟨q0, q1, qP, qK, qD⟩ := q; exact ⟨q0, q1, qP, qK.call, qD⟩, va_recv hK hP (ci := 2) rfl (q0 := 0) rfl, fun U hU hW => ⟨rfl, by rw [hU], by rw [hU]; exact hPc, hKN.warm hW, hDc.weaken (fun _ _ _ _ => trivial)⟩⟩ rfl rfl hl.1 rfl (lv_room (Nat.le_of_ble_eq_true rfl)) d_St_writeTable_50 ⟨Nat.zero_le _, Nat.zero_le _⟩) hS (fun q _ h => hFc q h) hFc (fun r u t H1 locs ht hvm hw hB hz1 hk1 hS => ?_)
        obtain ⟨M_19, dn_19, lf_19⟩ := u
        obtain ⟨b_19, rfl, hu_19⟩ := hw
        obtain ⟨hP1, hD1⟩ := hB
        rw [ht] at hP1
        have hP1 : va_P (dC, dI) classes [(hs, .inr (2, [.ref hw, .int (nI bl), .int dn_19, .int lf_19])), (hw, .inl (cI, 40, .inl M_19))] H1 := hP1
        obtain ⟨hP, hD⟩ := va_join (wc := [(hs, .inr (2, [.ref hw, .int (nI bl), .int dn, .int lf])), (hw, .inl (cI, 40, .inl M))]) (wr := []) (w1 := [(hs, .inr (2, [.ref hw, .int (nI bl), .int dn_19, .int lf_19])), (hw, .inl (cI, 40, .inl M_19))]) hP hD [0, 1] [] rfl rfl (by decide) (by decide) hk1 hFc hP1 hD1
        generalize H1 = H at hP hS ⊢
        have hP : va_P (dC, dI) classes [(hs, .inr (2, [.ref hw, .int (nI bl), .int dn_19, .int lf_19])), (hw, .inl (cI, 40, .inl M_19))] H := hP.sub [0, 1] rfl
        have hD : va_D A [(hs, .inr (2, [.ref hw, .int (nI bl), .int dn_19, .int lf_19])), (hw, .inl (cI, 40, .inl M_19))] := hD.sub [0, 1] (by decide) rfl
        clear hPc hDc hFc hP1 hD1 hk1 hz1 hvm ht
        refine bz_eq (tgt := 90) hx hb d_St_writeTable_53 (by decide) (fun h_20 => ?_) (fun h_20 => ?_)
        · subst h_20
          refine lv_iconst (v := (nI 0)) hx hb d_St_writeTable_90 (by decide) ?_
          exact W.zret (v := (bI false)) hx hb hr (bI_narrow _) (fun t ht hW => ⟨⟨_, (M_19, dn_19, lf_19), rfl, ⟨false, rfl, (by simp only [pTab, srlC_1 hc, plcN_1 hc, tab3, sq, Nat.reduceAdd, hu_19])⟩, by rw [ht]; exact hP, hD⟩, hS.F ht⟩) hS.2.2 d_St_writeTable_91
        · subst h_20
          refine lv_aload_n hx hb d_St_writeTable_56 rfl (lv_at hl 4 rfl) ?_
          refine lv_iload hx hb d_St_writeTable_57 (lv_at hl 1 rfl) ?_
          refine lv_iconst (v := (nI 1)) hx hb d_St_writeTable_59 (by decide) ?_
          refine lv_iadd hx hb d_St_writeTable_60 ?_
          refine tp (y := (nI 35)) (by decide) ?_
          refine lv_iload hx hb d_St_writeTable_61 (lv_at hl 0 rfl) ?_
          have hPc := hP.sub (ws' := [(hs, .inr (2, [.ref hw, .int (nI bl), .int dn_19, .int lf_19])), (hw, .inl (cI, 40, .inl M_19))]) [0, 1] rfl
          have hDc := hD.sub (ws' := [(hs, .inr (2, [.ref hw, .int (nI bl), .int dn_19, .int lf_19])), (hw, .inl (cI, 40, .inl M_19))]) [0, 1] (by decide) rfl
          have hFc := va_free (wc := [(hs, .inr (2, [.ref hw, .int (nI bl), .int dn_19, .int lf_19])), (hw, .inl (cI, 40, .inl M_19))]) hD hS hA [0, 1] rfl
          refine va_calli (va_runV (As := [.int (nI 35), .int (en &&& (nI 31))]) (rest := []) ⟨hx, hb, hml, hown, hts⟩ (c_St_put l dC dI cI (hs := hs) (k := 35) (x := en &&& (nI 31)) (hw := hw) (bl := bl) (dn := dn_19) (lf := lf_19) (M := M_19) (hk := (by omega)) (sz := H.size)) ⟨callB_of 2 hts (gd kw_278) rfl rfl rfl (hts _ kw_39) (hts _ kw_275) (by decide +kernel) ⟨Nat.le_of_ble_eq_true rfl, Nat.le_of_ble_eq_true rfl⟩, (hts _ kw_277), (hts _ kw_7)⟩ ⟨fun a U g mk q => by obtain ⟨q0, q1, qP, qK, qD⟩ := q; exact ⟨q0, q1, qP, qK.call, qD⟩, va_recv hK hP (ci := 2) rfl (q0 := 0) rfl, fun U hU hW => ⟨rfl, by rw [hU], by rw [hU]; exact hPc, hKN.warm hW, hDc.weaken (fun _ _ _ _ => trivial)⟩⟩ rfl rfl hl.1 rfl (lv_room (Nat.le_of_ble_eq_true rfl)) d_St_writeTable_63 ⟨Nat.zero_le _, Nat.zero_le _⟩) hS (fun q _ h => hFc q h) hFc (fun r u t H1 locs ht hvm hw hB hz1 hk1 hS => ?_)
          obtain ⟨M_21, dn_21, lf_21⟩ := u
          obtain ⟨b_21, rfl, hu_21⟩ := hw
          obtain ⟨hP1, hD1⟩ := hB
          rw [ht] at hP1
          have hP1 : va_P (dC, dI) classes [(hs, .inr (2, [.ref hw, .int (nI bl), .int dn_21, .int lf_21])), (hw, .inl (cI, 40, .inl M_21))] H1 := hP1
          obtain ⟨hP, hD⟩ := va_join (wc := [(hs, .inr (2, [.ref hw, .int (nI bl), .int dn_19, .int lf_19])), (hw, .inl (cI, 40, .inl M_19))]) (wr := []) (w1 := [(hs, .inr (2, [.ref hw, .int (nI bl), .int dn_21, .int lf_21])), (hw, .inl (cI, 40, .inl M_21))]) hP hD [0, 1] [] rfl rfl (by decide) (by decide) hk1 hFc hP1 hD1
          generalize H1 = H at hP hS ⊢
          have hP : va_P (dC, dI) classes [(hs, .inr (2, [.ref hw, .int (nI bl), .int dn_21, .int lf_21])), (hw, .inl (cI, 40, .inl M_21))] H := hP.sub [0, 1] rfl
          have hD : va_D A [(hs, .inr (2, [.ref hw, .int (nI bl), .int dn_21, .int lf_21])), (hw, .inl (cI, 40, .inl M_21))] := hD.sub [0, 1] (by decide) rfl
          clear hPc hDc hFc hP1 hD1 hk1 hz1 hvm ht
          refine bz_eq (tgt := 90) hx hb d_St_writeTable_66 (by decide) (fun h_22 => ?_) (fun h_22 => ?_)
          · subst h_22
            refine lv_iconst (v := (nI 0)) hx hb d_St_writeTable_90 (by decide) ?_
            exact W.zret (v := (bI false)) hx hb hr (bI_narrow _) (fun t ht hW => ⟨⟨_, (M_21, dn_21, lf_21), rfl, ⟨false, rfl, (by simp only [pTab, srlC_1 hc, plcN_1 hc, tab3, sq, Nat.reduceAdd, hu_19, hu_21])⟩, by rw [ht]; exact hP, hD⟩, hS.F ht⟩) hS.2.2 d_St_writeTable_91
          · subst h_22
            refine lv_aload_n hx hb d_St_writeTable_69 rfl (lv_at hl 4 rfl) ?_
            refine lv_iload hx hb d_St_writeTable_70 (lv_at hl 1 rfl) ?_
            refine lv_iconst (v := (nI 2)) hx hb d_St_writeTable_72 (by decide) ?_
            refine lv_iadd hx hb d_St_writeTable_73 ?_
            refine tp (y := (nI 36)) (by decide) ?_
            refine lv_iload_n hx hb d_St_writeTable_74 rfl (lv_at hl 2 rfl) ?_
            refine lv_iload hx hb d_St_writeTable_75 (lv_at hl 0 rfl) ?_
            refine pr_call (va_runS (As := [.int ((M 37) + (nI 1)), .int (en &&& (nI 31))]) (rest := [.int (nI 36), .ref hs]) ⟨hx, hb, hml, hown, hts⟩ (c_St_check l dC dI cI (a := (M 37) + (nI 1)) (b := en &&& (nI 31)) ) ⟨callB_of 2 hts (gd kw_123) rfl rfl rfl (hts _ kw_39) (hts _ kw_121) (by decide +kernel) ⟨Nat.le_of_ble_eq_true rfl, Nat.le_of_ble_eq_true rfl⟩, (hts _ kw_122)⟩ ⟨fun a U g mk q => by obtain ⟨q0, qP, qK⟩ := q; exact ⟨q0, qP, qK.call⟩, fun U hU hW => ⟨rfl, by rw [hU]; exact hP.sub [] rfl, hKN.warm hW⟩⟩ rfl rfl hl.1 rfl (lv_room (Nat.le_of_ble_eq_true rfl)) d_St_writeTable_77 ⟨Nat.zero_le _, Nat.zero_le _⟩) ?_
            have hPc := hP.sub (ws' := [(hs, .inr (2, [.ref hw, .int (nI bl), .int dn_21, .int lf_21])), (hw, .inl (cI, 40, .inl M_21))]) [0, 1] rfl
            have hDc := hD.sub (ws' := [(hs, .inr (2, [.ref hw, .int (nI bl), .int dn_21, .int lf_21])), (hw, .inl (cI, 40, .inl M_21))]) [0, 1] (by decide) rfl
            have hFc := va_free (wc := [(hs, .inr (2, [.ref hw, .int (nI bl), .int dn_21, .int lf_21])), (hw, .inl (cI, 40, .inl M_21))]) hD hS hA [0, 1] rfl
            refine va_calli (va_runV (As := [.int (nI 36), .int (ck ((M 37) + (nI 1)) (en &&& (nI 31)))]) (rest := []) ⟨hx, hb, hml, hown, hts⟩ (c_St_put l dC dI cI (hs := hs) (k := 36) (x := ck ((M 37) + (nI 1)) (en &&& (nI 31))) (hw := hw) (bl := bl) (dn := dn_21) (lf := lf_21) (M := M_21) (hk := (by omega)) (sz := H.size)) ⟨callB_of 2 hts (gd kw_278) rfl rfl rfl (hts _ kw_39) (hts _ kw_275) (by decide +kernel) ⟨Nat.le_of_ble_eq_true rfl, Nat.le_of_ble_eq_true rfl⟩, (hts _ kw_277), (hts _ kw_7)⟩ ⟨fun a U g mk q => by obtain ⟨q0, q1, qP, qK, qD⟩ := q; exact ⟨q0, q1, qP, qK.call, qD⟩, va_recv hK hP (ci := 2) rfl (q0 := 0) rfl, fun U hU hW => ⟨rfl, by rw [hU], by rw [hU]; exact hPc, hKN.warm hW, hDc.weaken (fun _ _ _ _ => trivial)⟩⟩ rfl rfl hl.1 rfl (lv_room (Nat.le_of_ble_eq_true rfl)) d_St_writeTable_80 ⟨Nat.zero_le _, Nat.zero_le _⟩) hS (fun q _ h => hFc q h) hFc (fun r u t H1 locs ht hvm hw hB hz1 hk1 hS => ?_)
            obtain ⟨M_23, dn_23, lf_23⟩ := u
            obtain ⟨b_23, rfl, hu_23⟩ := hw
            obtain ⟨hP1, hD1⟩ := hB
            rw [ht] at hP1
            have hP1 : va_P (dC, dI) classes [(hs, .inr (2, [.ref hw, .int (nI bl), .int dn_23, .int lf_23])), (hw, .inl (cI, 40, .inl M_23))] H1 := hP1
            obtain ⟨hP, hD⟩ := va_join (wc := [(hs, .inr (2, [.ref hw, .int (nI bl), .int dn_21, .int lf_21])), (hw, .inl (cI, 40, .inl M_21))]) (wr := []) (w1 := [(hs, .inr (2, [.ref hw, .int (nI bl), .int dn_23, .int lf_23])), (hw, .inl (cI, 40, .inl M_23))]) hP hD [0, 1] [] rfl rfl (by decide) (by decide) hk1 hFc hP1 hD1
            generalize H1 = H at hP hS ⊢
            have hP : va_P (dC, dI) classes [(hs, .inr (2, [.ref hw, .int (nI bl), .int dn_23, .int lf_23])), (hw, .inl (cI, 40, .inl M_23))] H := hP.sub [0, 1] rfl
            have hD : va_D A [(hs, .inr (2, [.ref hw, .int (nI bl), .int dn_23, .int lf_23])), (hw, .inl (cI, 40, .inl M_23))] := hD.sub [0, 1] (by decide) rfl
            clear hPc hDc hFc hP1 hD1 hk1 hz1 hvm ht
            refine bz_eq (tgt := 90) hx hb d_St_writeTable_83 (by decide) (fun h_24 => ?_) (fun h_24 => ?_)
            · subst h_24
              refine lv_iconst (v := (nI 0)) hx hb d_St_writeTable_90 (by decide) ?_
              exact W.zret (v := (bI false)) hx hb hr (bI_narrow _) (fun t ht hW => ⟨⟨_, (M_23, dn_23, lf_23), rfl, ⟨false, rfl, (by simp only [pTab, srlC_1 hc, plcN_1 hc, tab3, sq, Nat.reduceAdd, hu_19, hu_21, hu_23])⟩, by rw [ht]; exact hP, hD⟩, hS.F ht⟩) hS.2.2 d_St_writeTable_91
            · subst h_24
              refine lv_iconst (v := (nI 1)) hx hb d_St_writeTable_86 (by decide) ?_
              refine lv_goto (tgt := 91) hx hb d_St_writeTable_87 (by decide) ?_
              exact W.zret (v := (bI true)) hx hb hr (bI_narrow _) (fun t ht hW => ⟨⟨_, (M_23, dn_23, lf_23), rfl, ⟨true, rfl, (by simp only [pTab, srlC_1 hc, plcN_1 hc, tab3, sq, Nat.reduceAdd, hu_19, hu_21, hu_23])⟩, by rw [ht]; exact hP, hD⟩, hS.F ht⟩) hS.2.2 d_St_writeTable_91
      · exact absurd h_18 (by decide)
    · exact absurd h_17 (by decide)
set_option maxHeartbeats 4000000 in
set_option maxRecDepth 100000 in
theorem c_St_writePackage (l : Launch) (dC : Nat → ClassId) (dI : Nat → Nat → Nat) (cI : ClassId) (hs : Nat) (k : Nat) (ha : Nat) (b : Nat) (hw : Nat) (bl : Nat) (dn : Int32) (lf : Int32) (M : Nat → Int32) (N : Nat) (f : Nat → Int32) (hN : N < 2 ^ 31) (hbN : b + 17 ≤ N) (hk : k < 2) (sz : Nat) : Met l y_St_writePackage w_St_writePackage ({ frames := 2, cells := 0, slots := 0, locals := 42 }) (va_Pc [.ref hs, .int (nI k), .ref ha, .int (nI b)] (fun U => U.heap.size = sz ∧ va_P (dC, dI) classes [(hs, .inr (2, [.ref hw, .int (nI bl), .int dn, .int lf])), (hw, .inl (cI, 40, .inl M)), (ha, .inl (cI, N, .inl f))] U.heap ∧ KN dC dI cI U ∧ va_D (fun _ => True) [(hs, .inr (2, [.ref hw, .int (nI bl), .int dn, .int lf])), (hw, .inl (cI, 40, .inl M)), (ha, .inl (cI, N, .inl f))])) (va_Qi (fun (r : Int32) (u : (Nat → Int32) × Int32 × Int32) => ∃ res : Bool, r = bI res ∧ (wpL (fun i => f (b + i)) (k * 17) 17 0 (M, dn, lf) = (res, u))) (fun (u : (Nat → Int32) × Int32 × Int32) t => va_P (dC, dI) classes [(hs, .inr (2, [.ref hw, .int (nI bl), .int u.2.1, .int u.2.2])), (hw, .inl (cI, 40, .inl u.1)), (ha, .inl (cI, N, .inl f))] t.heap ∧ va_D (va_A [(hs, .inr (2, [.ref hw, .int (nI bl), .int dn, .int lf])), (hw, .inl (cI, 40, .inl M)), (ha, .inl (cI, N, .inl f))] sz) [(hs, .inr (2, [.ref hw, .int (nI bl), .int u.2.1, .int u.2.2])), (hw, .inl (cI, 40, .inl u.1)), (ha, .inl (cI, N, .inl f))]) (va_A [(hs, .inr (2, [.ref hw, .int (nI bl), .int dn, .int lf])), (hw, .inl (cI, 40, .inl M)), (ha, .inl (cI, N, .inl f))] sz)) 0 0 (va_A [(hs, .inr (2, [.ref hw, .int (nI bl), .int dn, .int lf])), (hw, .inl (cI, 40, .inl M)), (ha, .inl (cI, N, .inl f))] sz) := by
  refine Met.ofW (cc := b_St_writePackage) (maxL := 6) (ret := (some .boolean)) (by decide) rfl ?_
  intro p e s m args below meth c s₁ B hml hv
  obtain ⟨rfl, hsz, hP, hKN, hD0⟩ := hv
  have hK := hKN.1
  have hx := B.exec
  have hb := B.bytes
  have hr := B.returns
  have hts := fun (w : Cond) (h : w ∈ gt) => atoms_spec (ws := w_St_writePackage) B.pre w (List.mem_cons_of_mem _ h)
  have hown : s.vm.findClass R_St = some m.cls := findClass_of_methodNamed B.named
  have hlocks := B.notSynchronized
  subst hsz
  have hD := hD0.self (sz := s.heap.size)
  generalize hAe : va_A [(hs, .inr (2, [.ref hw, .int (nI bl), .int dn, .int lf])), (hw, .inl (cI, 40, .inl M)), (ha, .inl (cI, N, .inl f))] s.heap.size = A at hD ⊢
  have hA : ∀ q : Nat, s.heap.size ≤ q → A q := fun q h => by rw [← hAe]; exact Or.inr h
  have hS : va_S A s.heap s.heap [] := va_S.rf
  have hP : va_P (dC, dI) classes [(hs, .inr (2, [.ref hw, .int (nI bl), .int dn, .int lf])), (hw, .inl (cI, 40, .inl M)), (ha, .inl (cI, N, .inl f))] s.heap := hP
  clear hAe hD0
  have hl := lv_entry ([.ref hs, .int (nI k), .ref ha, .int (nI b)]) (n := 6) (Nat.le_of_ble_eq_true rfl)
  rw [lg_entry_eq]
  generalize (lg_sl ([.ref hs, .int (nI k), .ref ha, .int (nI b)]) ++ List.replicate (6 - (lg_sl ([.ref hs, .int (nI k), .ref ha, .int (nI b)])).length) Slot.unset).toArray = ls at hl ⊢
  have hl : lv_has ls 6 [(0, .ref hs), (1, .int (nI k)), (2, .ref ha), (3, .int (nI b))] := hl
  refine lv_iload_n hx hb d_St_writePackage_0 rfl (lv_at hl 1 rfl) ?_
  refine pr_call (va_runS (As := [.int (nI k)]) (rest := []) ⟨hx, hb, hml, hown, hts⟩ (c_St_slotPlace l dC dI cI (k := k) ) ⟨callB_of 1 hts (gd kw_289) rfl rfl rfl (hts _ kw_39) (hts _ kw_287) (by decide +kernel) ⟨Nat.le_of_ble_eq_true rfl, Nat.le_of_ble_eq_true rfl⟩, (hts _ kw_288)⟩ ⟨fun a U g mk q => by obtain ⟨q0, qP, qK⟩ := q; exact ⟨q0, qP, qK.call⟩, fun U hU hW => ⟨rfl, by rw [hU]; exact hP.sub [] rfl, hKN.warm hW⟩⟩ rfl rfl hl.1 rfl (lv_room (Nat.le_of_ble_eq_true rfl)) d_St_writePackage_1 ⟨Nat.zero_le _, Nat.zero_le _⟩) ?_
  refine lv_istore (lv' := [(4, .int (nI (k * 17))), (0, .ref hs), (1, .int (nI k)), (2, .ref ha), (3, .int (nI b))]) hx hb d_St_writePackage_4 hl (by decide) rfl (fun ls hl => ?_)
  refine lv_iconst (v := (nI 0)) hx hb d_St_writePackage_6 (by decide) ?_
  refine lv_istore (lv' := [(5, .int (nI 0)), (4, .int (nI (k * 17))), (0, .ref hs), (1, .int (nI k)), (2, .ref ha), (3, .int (nI b))]) hx hb d_St_writePackage_7 hl (by decide) rfl (fun ls hl => ?_)
  refine wloop (ι := Nat × (Nat → Int32) × Int32 × Int32) (fun i => 17 - (i.1)) (fun i ls H locs => ((i.1) ≤ 17 ∧ wpL (fun z => f (b + z)) (k * 17) 17 0 (M, dn, lf) = wpL (fun z => f (b + z)) (k * 17) (17 - (i.1)) (i.1) ((i.2.1), (i.2.2.1), (i.2.2.2))) ∧ lv_has ls 6 [(5, .int (nI (i.1))), (4, .int (nI (k * 17))), (0, .ref hs), (1, .int (nI k)), (2, .ref ha), (3, .int (nI b))] ∧ va_P (dC, dI) classes [(hs, .inr (2, [.ref hw, .int (nI bl), .int (i.2.2.1), .int (i.2.2.2)])), (hw, .inl (cI, 40, .inl (i.2.1))), (ha, .inl (cI, N, .inl f))] H ∧ va_D A [(hs, .inr (2, [.ref hw, .int (nI bl), .int (i.2.2.1), .int (i.2.2.2)])), (hw, .inl (cI, 40, .inl (i.2.1))), (ha, .inl (cI, N, .inl f))] ∧ va_S A s.heap H locs) ?_ (0, M, dn, lf) ⟨⟨by omega, rfl⟩, hl, hP, hD, hS⟩
  clear hl hP hD hS
  rintro ⟨i, M2, dn2, lf2⟩ ls H locs ⟨hinv, hl, hP, hD, hS⟩ ih
  dsimp only at hinv hl ih hP hD
  refine lv_iload hx hb d_St_writePackage_9 (lv_at hl 0 rfl) ?_
  refine lv_bipush (v := (nI 17)) hx hb d_St_writePackage_11 (by decide) ?_
  refine nb_ge (tgt := 42) hx hb d_St_writePackage_13 (by decide) (by first | omega | exact Nat.lt_of_lt_of_le (stt_lt _ _) (by decide)) (by first | omega | exact Nat.lt_of_lt_of_le (stt_lt _ _) (by decide)) (fun h_1 => ?_) (fun h_1 => ?_)
  · refine lv_iconst (v := (nI 1)) hx hb d_St_writePackage_42 (by decide) ?_
    exact W.zret (v := (bI true)) hx hb hr (bI_narrow _) (fun t ht hW => ⟨⟨_, (M2, dn2, lf2), rfl, ⟨true, rfl, (by rw [hinv.2]; rw [show 17 - i = 0 by omega, wpL])⟩, by rw [ht]; exact hP, hD⟩, hS.F ht⟩) hS.2.2 d_St_writePackage_43
  · refine lv_aload_n hx hb d_St_writePackage_16 rfl (lv_at hl 2 rfl) ?_
    refine lv_iload hx hb d_St_writePackage_17 (lv_at hl 1 rfl) ?_
    refine lv_iload hx hb d_St_writePackage_19 (lv_at hl 0 rfl) ?_
    refine lv_iadd hx hb d_St_writePackage_21 ?_
    refine tp (nI_add _ _) ?_
    refine lv_aload_n hx hb d_St_writePackage_22 rfl (lv_at hl 4 rfl) ?_
    refine lv_iload_n hx hb d_St_writePackage_23 rfl (lv_at hl 5 rfl) ?_
    refine lv_iload hx hb d_St_writePackage_24 (lv_at hl 0 rfl) ?_
    refine lv_iadd hx hb d_St_writePackage_26 ?_
    refine tp (nI_add _ _) ?_
    refine ar_ld (k := b + i) hx hb hK hP 2 0 rfl rfl (by omega) (by first | decide | omega) d_St_writePackage_27 ?_
    have hPc := hP.sub (ws' := [(hs, .inr (2, [.ref hw, .int (nI bl), .int dn2, .int lf2])), (hw, .inl (cI, 40, .inl M2))]) [0, 1] rfl
    have hDc := hD.sub (ws' := [(hs, .inr (2, [.ref hw, .int (nI bl), .int dn2, .int lf2])), (hw, .inl (cI, 40, .inl M2))]) [0, 1] (by decide) rfl
    have hFc := va_free (wc := [(hs, .inr (2, [.ref hw, .int (nI bl), .int dn2, .int lf2])), (hw, .inl (cI, 40, .inl M2))]) hD hS hA [0, 1] rfl
    refine va_calli (va_runV (As := [.int (nI ((k * 17) + i)), .int (f (b + i))]) (rest := []) ⟨hx, hb, hml, hown, hts⟩ (c_St_put l dC dI cI (hs := hs) (k := (k * 17) + i) (x := f (b + i)) (hw := hw) (bl := bl) (dn := dn2) (lf := lf2) (M := M2) (hk := (by omega)) (sz := H.size)) ⟨callB_of 2 hts (gd kw_278) rfl rfl rfl (hts _ kw_39) (hts _ kw_275) (by decide +kernel) ⟨Nat.le_of_ble_eq_true rfl, Nat.le_of_ble_eq_true rfl⟩, (hts _ kw_277), (hts _ kw_7)⟩ ⟨fun a U g mk q => by obtain ⟨q0, q1, qP, qK, qD⟩ := q; exact ⟨q0, q1, qP, qK.call, qD⟩, va_recv hK hP (ci := 2) rfl (q0 := 0) rfl, fun U hU hW => ⟨rfl, by rw [hU], by rw [hU]; exact hPc, hKN.warm hW, hDc.weaken (fun _ _ _ _ => trivial)⟩⟩ rfl rfl hl.1 rfl (lv_room (Nat.le_of_ble_eq_true rfl)) d_St_writePackage_28 ⟨Nat.zero_le _, Nat.zero_le _⟩) hS (fun q _ h => hFc q h) hFc (fun r u t H1 locs ht hvm hw hB hz1 hk1 hS => ?_)
    obtain ⟨M_2, dn_2, lf_2⟩ := u
    obtain ⟨b_2, rfl, hu_2⟩ := hw
    obtain ⟨hP1, hD1⟩ := hB
    rw [ht] at hP1
    have hP1 : va_P (dC, dI) classes [(hs, .inr (2, [.ref hw, .int (nI bl), .int dn_2, .int lf_2])), (hw, .inl (cI, 40, .inl M_2))] H1 := hP1
    obtain ⟨hP, hD⟩ := va_join (wc := [(hs, .inr (2, [.ref hw, .int (nI bl), .int dn2, .int lf2])), (hw, .inl (cI, 40, .inl M2))]) (wr := [(ha, .inl (cI, N, .inl f))]) (w1 := [(hs, .inr (2, [.ref hw, .int (nI bl), .int dn_2, .int lf_2])), (hw, .inl (cI, 40, .inl M_2))]) hP hD [0, 1] [2] rfl rfl (by decide) (by decide) hk1 hFc hP1 hD1
    generalize H1 = H at hP hS ⊢
    have hP : va_P (dC, dI) classes [(hs, .inr (2, [.ref hw, .int (nI bl), .int dn_2, .int lf_2])), (hw, .inl (cI, 40, .inl M_2)), (ha, .inl (cI, N, .inl f))] H := hP.sub [1, 2, 0] rfl
    have hD : va_D A [(hs, .inr (2, [.ref hw, .int (nI bl), .int dn_2, .int lf_2])), (hw, .inl (cI, 40, .inl M_2)), (ha, .inl (cI, N, .inl f))] := hD.sub [1, 2, 0] (by decide) rfl
    clear hPc hDc hFc hP1 hD1 hk1 hz1 hvm ht
    refine bz_ne (tgt := 36) hx hb d_St_writePackage_31 (by decide) (fun h_3 => ?_) (fun h_3 => ?_)
    · subst h_3
      refine lv_iinc (k := 0) (v := (nI (i + 1))) (lv' := [(5, .int (nI (i + 1))), (4, .int (nI (k * 17))), (0, .ref hs), (1, .int (nI k)), (2, .ref ha), (3, .int (nI b))]) hx hb d_St_writePackage_36 hl rfl (nI_inc _) (by decide) rfl (fun ls hl => ?_)
      refine lv_goto (tgt := 9) hx hb d_St_writePackage_39 (by decide) ?_
      exact ih (i + 1, M_2, dn_2, lf_2) ls H locs (by show 17 - (i + 1) < 17 - i; omega) ⟨⟨by (try dsimp only); omega, by rw [hinv.2, show 17 - i = (17 - (i + 1)) + 1 by omega, wpL]; simp only [hu_2, sq]⟩, hl, hP, hD, hS⟩
    · subst h_3
      refine lv_iconst (v := (nI 0)) hx hb d_St_writePackage_34 (by decide) ?_
      exact W.zret (v := (bI false)) hx hb hr (bI_narrow _) (fun t ht hW => ⟨⟨_, (M_2, dn_2, lf_2), rfl, ⟨false, rfl, (by rw [hinv.2]; rw [show 17 - i = (17 - (i + 1)) + 1 by omega, wpL]; simp only [hu_2, sq])⟩, by rw [ht]; exact hP, hD⟩, hS.F ht⟩) hS.2.2 d_St_writePackage_35
set_option maxHeartbeats 4000000 in
set_option maxRecDepth 100000 in
theorem c_St_blowUpTo (l : Launch) (dC : Nat → ClassId) (dI : Nat → Nat → Nat) (cI : ClassId) (hs : Nat) (v : Int32) (hw : Nat) (bl : Nat) (dn : Int32) (lf : Int32) (hbl : bl ≤ 32) (sz : Nat) : Met l y_St_blowUpTo w_St_blowUpTo ({ frames := 1, cells := 0, slots := 0, locals := 40 }) (va_Pc [.ref hs, .int v] (fun U => U.heap.size = sz ∧ va_P (dC, dI) classes [(hs, .inr (2, [.ref hw, .int (nI bl), .int dn, .int lf]))] U.heap ∧ KN dC dI cI U ∧ va_D (fun _ => True) [(hs, .inr (2, [.ref hw, .int (nI bl), .int dn, .int lf]))])) (va_Qi (fun (r : Int32) (u : Nat × Int32 × Int32) => ∃ res : Bool, r = bI res ∧ (pBlow v bl dn lf = (res, u))) (fun (u : Nat × Int32 × Int32) t => va_P (dC, dI) classes [(hs, .inr (2, [.ref hw, .int (nI u.1), .int u.2.1, .int u.2.2]))] t.heap ∧ va_D (va_A [(hs, .inr (2, [.ref hw, .int (nI bl), .int dn, .int lf]))] sz) [(hs, .inr (2, [.ref hw, .int (nI u.1), .int u.2.1, .int u.2.2]))]) (va_A [(hs, .inr (2, [.ref hw, .int (nI bl), .int dn, .int lf]))] sz)) 0 0 (va_A [(hs, .inr (2, [.ref hw, .int (nI bl), .int dn, .int lf]))] sz) := by
  refine Met.ofW (cc := b_St_blowUpTo) (maxL := 4) (ret := (some .boolean)) (by decide) rfl ?_
  intro p e s m args below meth c s₁ B hml hv
  obtain ⟨rfl, hsz, hP, hKN, hD0⟩ := hv
  have hK := hKN.1
  have hx := B.exec
  have hb := B.bytes
  have hr := B.returns
  have hts := fun (w : Cond) (h : w ∈ gt) => atoms_spec (ws := w_St_blowUpTo) B.pre w (List.mem_cons_of_mem _ h)
  have hown : s.vm.findClass R_St = some m.cls := findClass_of_methodNamed B.named
  have hlocks := B.notSynchronized
  subst hsz
  have hD := hD0.self (sz := s.heap.size)
  generalize hAe : va_A [(hs, .inr (2, [.ref hw, .int (nI bl), .int dn, .int lf]))] s.heap.size = A at hD ⊢
  have hA : ∀ q : Nat, s.heap.size ≤ q → A q := fun q h => by rw [← hAe]; exact Or.inr h
  have hS : va_S A s.heap s.heap [] := va_S.rf
  have hP : va_P (dC, dI) classes [(hs, .inr (2, [.ref hw, .int (nI bl), .int dn, .int lf]))] s.heap := hP
  clear hAe hD0
  have hl := lv_entry ([.ref hs, .int v]) (n := 4) (Nat.le_of_ble_eq_true rfl)
  rw [lg_entry_eq]
  generalize (lg_sl ([.ref hs, .int v]) ++ List.replicate (4 - (lg_sl ([.ref hs, .int v])).length) Slot.unset).toArray = ls at hl ⊢
  have hl : lv_has ls 4 [(0, .ref hs), (1, .int v)] := hl
  refine lv_iload_n hx hb d_St_blowUpTo_0 rfl (lv_at hl 1 rfl) ?_
  refine lv_bipush (v := (nI 32)) hx hb d_St_blowUpTo_1 (by decide) ?_
  refine va_mmin hx hb (by rw [hml]; exact hl.1.symm) hown (hts _ kw_342) (hts _ kw_343) (hts _ kw_43) (hts _ kw_344) (Nat.le_of_ble_eq_true rfl) (Nat.le_of_ble_eq_true rfl) (Nat.zero_le _) (Nat.zero_le _) d_St_blowUpTo_3 ?_
  rcases gl_or v with ⟨hg, hg0⟩ | ⟨hg, hg0⟩
  · refine lv_topi (fun g eg => ?_)
    rw [← eg] at hg
    refine lv_istore_n (lv' := [(2, .int g), (0, .ref hs), (1, .int v)]) hx hb d_St_blowUpTo_6 rfl hl (by decide) rfl (fun ls hl => ?_)
    refine lv_aload_n hx hb d_St_blowUpTo_7 rfl (lv_at hl 1 rfl) ?_
    refine va_get (D := (dC, dI)) (ci := 2) (v := .int (nI bl)) (C := R_St) (T := F_St) (N := 4) hx hb hts in_St hown hK hP 0 rfl rfl 1 (by decide) (hts _ kw_127) (fun _ h9 => h9) rfl d_St_blowUpTo_8 ?_
    refine lv_istore_n (lv' := [(3, .int (nI bl)), (2, .int g), (0, .ref hs), (1, .int v)]) hx hb d_St_blowUpTo_11 rfl hl (by decide) rfl (fun ls hl => ?_)
    refine lv_iload_n hx hb d_St_blowUpTo_12 rfl (lv_at hl 0 rfl) ?_
    refine lv_iload_n hx hb d_St_blowUpTo_13 rfl (lv_at hl 1 rfl) ?_
    refine lv_icmp_ge (tgt := 42) hx hb d_St_blowUpTo_14 (by decide) (fun h_1 => ?_) (fun h_1 => ?_)
    · refine lv_iconst (v := (nI 1)) hx hb d_St_blowUpTo_42 (by decide) ?_
      exact W.zret (v := (bI true)) hx hb hr (bI_narrow _) (fun t ht hW => ⟨⟨_, (bl, dn, lf), rfl, ⟨true, rfl, (by rw [pBlow, hg0, Nat.zero_sub, bw])⟩, by rw [ht]; exact hP, hD⟩, hS.F ht⟩) hS.2.2 d_St_blowUpTo_43
    · exact absurd (neg_le hg (by omega)) h_1
  · refine tp hg ?_
    refine lv_istore_n (lv' := [(2, .int (nI (gl v))), (0, .ref hs), (1, .int v)]) hx hb d_St_blowUpTo_6 rfl hl (by decide) rfl (fun ls hl => ?_)
    refine lv_aload_n hx hb d_St_blowUpTo_7 rfl (lv_at hl 1 rfl) ?_
    refine va_get (D := (dC, dI)) (ci := 2) (v := .int (nI bl)) (C := R_St) (T := F_St) (N := 4) hx hb hts in_St hown hK hP 0 rfl rfl 1 (by decide) (hts _ kw_127) (fun _ h9 => h9) rfl d_St_blowUpTo_8 ?_
    refine lv_istore_n (lv' := [(3, .int (nI bl)), (2, .int (nI (gl v))), (0, .ref hs), (1, .int v)]) hx hb d_St_blowUpTo_11 rfl hl (by decide) rfl (fun ls hl => ?_)
    refine wloop (ι := Nat × Nat × Int32 × Int32) (fun i => gl v - (i.1)) (fun i ls H locs => ((i.1) = (i.2.1) ∧ (i.2.1) ≤ 32 ∧ pBlow v bl dn lf = bw (gl v - (i.2.1)) (i.2.1) (i.2.2.1) (i.2.2.2)) ∧ lv_has ls 4 [(3, .int (nI (i.1))), (2, .int (nI (gl v))), (0, .ref hs), (1, .int v)] ∧ va_P (dC, dI) classes [(hs, .inr (2, [.ref hw, .int (nI (i.2.1)), .int (i.2.2.1), .int (i.2.2.2)]))] H ∧ va_D A [(hs, .inr (2, [.ref hw, .int (nI (i.2.1)), .int (i.2.2.1), .int (i.2.2.2)]))] ∧ va_S A s.heap H locs) ?_ (bl, bl, dn, lf) ⟨⟨rfl, hbl, rfl⟩, hl, hP, hD, hS⟩
    clear hl hP hD hS
    rintro ⟨k, bl2, dn2, lf2⟩ ls H locs ⟨hinv, hl, hP, hD, hS⟩ ih
    dsimp only at hinv hl ih hP hD
    refine lv_iload_n hx hb d_St_blowUpTo_12 rfl (lv_at hl 0 rfl) ?_
    refine lv_iload_n hx hb d_St_blowUpTo_13 rfl (lv_at hl 1 rfl) ?_
    refine nb_ge (tgt := 42) hx hb d_St_blowUpTo_14 (by decide) (by first | omega | exact Nat.lt_of_lt_of_le (stt_lt _ _) (by decide)) (by first | omega | exact Nat.lt_of_lt_of_le (stt_lt _ _) (by decide)) (fun h_2 => ?_) (fun h_2 => ?_)
    · refine lv_iconst (v := (nI 1)) hx hb d_St_blowUpTo_42 (by decide) ?_
      exact W.zret (v := (bI true)) hx hb hr (bI_narrow _) (fun t ht hW => ⟨⟨_, (bl2, dn2, lf2), rfl, ⟨true, rfl, (by rw [hinv.2.2, show gl v - bl2 = 0 by omega, bw])⟩, by rw [ht]; exact hP, hD⟩, hS.F ht⟩) hS.2.2 d_St_blowUpTo_43
    · refine lv_aload_n hx hb d_St_blowUpTo_17 rfl (lv_at hl 2 rfl) ?_
      have hPc := hP.sub (ws' := [(hs, .inr (2, [.ref hw, .int (nI bl2), .int dn2, .int lf2]))]) [0] rfl
      have hDc := hD.sub (ws' := [(hs, .inr (2, [.ref hw, .int (nI bl2), .int dn2, .int lf2]))]) [0] (by decide) rfl
      have hFc := va_free (wc := [(hs, .inr (2, [.ref hw, .int (nI bl2), .int dn2, .int lf2]))]) hD hS hA [0] rfl
      refine va_calli (va_runV (As := []) (rest := []) ⟨hx, hb, hml, hown, hts⟩ (c_St_mayWrite l dC dI cI (hs := hs) (hw := hw) (bl := bl2) (dn := dn2) (lf := lf2)  (sz := H.size)) ⟨callB_of 0 hts (gd kw_282) rfl rfl rfl (hts _ kw_39) (hts _ kw_279) (by decide +kernel) ⟨Nat.le_of_ble_eq_true rfl, Nat.le_of_ble_eq_true rfl⟩, (hts _ kw_281), (hts _ kw_8)⟩ ⟨fun a U g mk q => by obtain ⟨q0, q1, qP, qK, qD⟩ := q; exact ⟨q0, q1, qP, qK.call, qD⟩, va_recv hK hP (ci := 2) rfl (q0 := 0) rfl, fun U hU hW => ⟨rfl, by rw [hU], by rw [hU]; exact hPc, hKN.warm hW, hDc.weaken (fun _ _ _ _ => trivial)⟩⟩ rfl rfl hl.1 rfl (lv_room (Nat.le_of_ble_eq_true rfl)) d_St_blowUpTo_18 ⟨Nat.zero_le _, Nat.zero_le _⟩) hS (fun q _ h => hFc q h) hFc (fun r u t H1 locs ht hvm hw hB hz1 hk1 hS => ?_)
      obtain ⟨dn_3, lf_3⟩ := u
      obtain ⟨b_3, rfl, hu_3⟩ := hw
      obtain ⟨hP1, hD1⟩ := hB
      rw [ht] at hP1
      have hP1 : va_P (dC, dI) classes [(hs, .inr (2, [.ref hw, .int (nI bl2), .int dn_3, .int lf_3]))] H1 := hP1
      obtain ⟨hP, hD⟩ := va_join (wc := [(hs, .inr (2, [.ref hw, .int (nI bl2), .int dn2, .int lf2]))]) (wr := []) (w1 := [(hs, .inr (2, [.ref hw, .int (nI bl2), .int dn_3, .int lf_3]))]) hP hD [0] [] rfl rfl (by decide) (by decide) hk1 hFc hP1 hD1
      generalize H1 = H at hP hS ⊢
      have hP : va_P (dC, dI) classes [(hs, .inr (2, [.ref hw, .int (nI bl2), .int dn_3, .int lf_3]))] H := hP.sub [0] rfl
      have hD : va_D A [(hs, .inr (2, [.ref hw, .int (nI bl2), .int dn_3, .int lf_3]))] := hD.sub [0] (by decide) rfl
      clear hPc hDc hFc hP1 hD1 hk1 hz1 hvm ht
      refine bz_ne (tgt := 26) hx hb d_St_blowUpTo_21 (by decide) (fun h_4 => ?_) (fun h_4 => ?_)
      · subst h_4
        refine lv_aload_n hx hb d_St_blowUpTo_26 rfl (lv_at hl 2 rfl) ?_
        refine lv_dup hx hb d_St_blowUpTo_27 rfl ?_
        refine va_get (D := (dC, dI)) (ci := 2) (v := .int (nI bl2)) (C := R_St) (T := F_St) (N := 4) hx hb hts in_St hown hK hP 0 rfl rfl 1 (by decide) (hts _ kw_127) (fun _ h9 => h9) rfl d_St_blowUpTo_28 ?_
        refine lv_iconst (v := (nI 1)) hx hb d_St_blowUpTo_31 (by decide) ?_
        refine lv_iadd hx hb d_St_blowUpTo_32 ?_
        refine tp (nI_add _ _) ?_
        refine va_put (D := (dC, dI)) (ci := 2) (v := .int (nI (bl2 + 1))) (ty := .int) (C := R_St) (T := F_St) (N := 4) hx hb hts in_St t_St t_St_ok n_St hown hK hP hD hS 0 rfl rfl 1 (by decide) (hts _ kw_127) (fun _ h9 => h9) rfl (by decide +kernel) rfl rfl (Nat.le_of_ble_eq_true rfl) d_St_blowUpTo_33 (fun H locs hP hD hS => ?_)
        have hP : va_P (dC, dI) classes [(hs, .inr (2, [.ref hw, .int (nI (bl2 + 1)), .int dn_3, .int lf_3]))] H := hP
        have hD : va_D A [(hs, .inr (2, [.ref hw, .int (nI (bl2 + 1)), .int dn_3, .int lf_3]))] := hD
        refine lv_iinc (k := 0) (v := (nI (k + 1))) (lv' := [(3, .int (nI (k + 1))), (2, .int (nI (gl v))), (0, .ref hs), (1, .int v)]) hx hb d_St_blowUpTo_36 hl rfl (nI_inc _) (by decide) rfl (fun ls hl => ?_)
        refine lv_goto (tgt := 12) hx hb d_St_blowUpTo_39 (by decide) ?_
        exact ih (k + 1, bl2 + 1, dn_3, lf_3) ls H locs (by show gl v - (k + 1) < gl v - k; omega) ⟨⟨by (try dsimp only); omega, by (try dsimp only); omega, by rw [hinv.2.2, show gl v - bl2 = (gl v - (bl2 + 1)) + 1 by omega]; simp only [bw, hu_3]⟩, hl, hP, hD, hS⟩
      · subst h_4
        refine lv_iconst (v := (nI 0)) hx hb d_St_blowUpTo_24 (by decide) ?_
        exact W.zret (v := (bI false)) hx hb hr (bI_narrow _) (fun t ht hW => ⟨⟨_, (bl2, dn_3, lf_3), rfl, ⟨false, rfl, (by rw [hinv.2.2, show gl v - bl2 = (gl v - (bl2 + 1)) + 1 by omega]; simp only [bw, hu_3])⟩, by rw [ht]; exact hP, hD⟩, hS.F ht⟩) hS.2.2 d_St_blowUpTo_25
end
