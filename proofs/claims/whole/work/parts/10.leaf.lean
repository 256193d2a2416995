set_option maxHeartbeats 4000000 in
set_option maxRecDepth 100000 in
theorem c_TS_hash (l : Launch) (dC : Nat → ClassId) (dI : Nat → Nat → Nat) (cI : ClassId) (a : Int32) (b : Int32)  : Met l y_TS_hash w_TS_hash ({ frames := 0, cells := 0, slots := 0, locals := 0 }) (va_Pc [.int a, .int b] (fun U => va_P (dC, dI) classes [] U.heap ∧ KN dC dI cI U)) (qr (hh a b)) 0 0 (fun _ => False) := by
  refine Met.ofW (cc := b_TS_hash) (maxL := 3) (ret := (some .int)) (by decide) rfl ?_
  intro p e s m args below meth c s₁ B hml hv
  obtain ⟨rfl, hP, hKN⟩ := hv
  have hK := hKN.1
  have hx := B.exec
  have hb := B.bytes
  have hr := B.returns
  have hts := fun (w : Cond) (h : w ∈ gt) => atoms_spec (ws := w_TS_hash) B.pre w (List.mem_cons_of_mem _ h)
  have hown : s.vm.findClass R_TS = some m.cls := findClass_of_methodNamed B.named
  have hlocks := B.notSynchronized
  have hl := lv_entry ([.int a, .int b]) (n := 3) (Nat.le_of_ble_eq_true rfl)
  rw [lg_entry_eq]
  generalize (lg_sl ([.int a, .int b]) ++ List.replicate (3 - (lg_sl ([.int a, .int b])).length) Slot.unset).toArray = ls at hl ⊢
  have hl : lv_has ls 3 [(0, .int a), (1, .int b)] := hl
  refine lv_iload_n hx hb d_TS_hash_0 rfl (lv_at hl 0 rfl) ?_
  refine lv_ldc (v := 1398175271) hx hb hown (hts _ kw_67) d_TS_hash_1 ?_
  refine lv_ixor hx hb d_TS_hash_3 ?_
  refine lv_ldc (v := 796343837) hx hb hown (hts _ kw_68) d_TS_hash_4 ?_
  refine lv_imul hx hb d_TS_hash_6 ?_
  refine lv_iload_n hx hb d_TS_hash_7 rfl (lv_at hl 1 rfl) ?_
  refine lv_iadd hx hb d_TS_hash_8 ?_
  refine lv_istore_n (lv' := [(2, .int (((a ^^^ 1398175271) * 796343837) + b)), (0, .int a), (1, .int b)]) hx hb d_TS_hash_9 rfl hl (by decide) rfl (fun ls hl => ?_)
  refine lv_iload_n hx hb d_TS_hash_10 rfl (lv_at hl 0 rfl) ?_
  refine lv_iload_n hx hb d_TS_hash_11 rfl (lv_at hl 0 rfl) ?_
  refine lv_bipush (v := (nI 13)) hx hb d_TS_hash_12 (by decide) ?_
  refine lv_iushr (v := ush (((a ^^^ 1398175271) * 796343837) + b) (nI 13)) hx hb d_TS_hash_14 rfl ?_
  refine lv_ixor hx hb d_TS_hash_15 ?_
  refine lv_istore_n (lv' := [(2, .int ((((a ^^^ 1398175271) * 796343837) + b) ^^^ (ush (((a ^^^ 1398175271) * 796343837) + b) (nI 13)))), (0, .int a), (1, .int b)]) hx hb d_TS_hash_16 rfl hl (by decide) rfl (fun ls hl => ?_)
  refine lv_iload_n hx hb d_TS_hash_17 rfl (lv_at hl 0 rfl) ?_
  refine lv_ldc (v := 1398175271) hx hb hown (hts _ kw_67) d_TS_hash_18 ?_
  refine lv_imul hx hb d_TS_hash_20 ?_
  refine lv_istore_n (lv' := [(2, .int (((((a ^^^ 1398175271) * 796343837) + b) ^^^ (ush (((a ^^^ 1398175271) * 796343837) + b) (nI 13))) * 1398175271)), (0, .int a), (1, .int b)]) hx hb d_TS_hash_21 rfl hl (by decide) rfl (fun ls hl => ?_)
  refine lv_iload_n hx hb d_TS_hash_22 rfl (lv_at hl 0 rfl) ?_
  refine lv_iload_n hx hb d_TS_hash_23 rfl (lv_at hl 0 rfl) ?_
  refine lv_bipush (v := (nI 16)) hx hb d_TS_hash_24 (by decide) ?_
  refine lv_iushr (v := ush (((((a ^^^ 1398175271) * 796343837) + b) ^^^ (ush (((a ^^^ 1398175271) * 796343837) + b) (nI 13))) * 1398175271) (nI 16)) hx hb d_TS_hash_26 rfl ?_
  refine lv_ixor hx hb d_TS_hash_27 ?_
  exact W.iret (v := ((((((a ^^^ 1398175271) * 796343837) + b) ^^^ (ush (((a ^^^ 1398175271) * 796343837) + b) (nI 13))) * 1398175271) ^^^ (ush (((((a ^^^ 1398175271) * 796343837) + b) ^^^ (ush (((a ^^^ 1398175271) * 796343837) + b) (nI 13))) * 1398175271) (nI 16)))) hx hb hr (fun t ht hW => ⟨_, rfl, (by first | rfl | (simp only []; done) | (simp only []; rfl) | (simp []; done)), ht⟩) (fun q h => by cases h) d_TS_hash_28
set_option maxHeartbeats 4000000 in
set_option maxRecDepth 100000 in
theorem c_PW_digest (l : Launch) (dC : Nat → ClassId) (dI : Nat → Nat → Nat) (cI : ClassId) (a : Int32) (b : Int32)  : Met l y_PW_digest w_PW_digest ({ frames := 1, cells := 0, slots := 0, locals := 22 }) (va_Pc [.int a, .int b] (fun U => va_P (dC, dI) classes [] U.heap ∧ KN dC dI cI U)) (qr (hh a b)) 0 0 (fun _ => False) := by
  refine Met.ofW (cc := b_PW_digest) (maxL := 2) (ret := (some .int)) (by decide) rfl ?_
  intro p e s m args below meth c s₁ B hml hv
  obtain ⟨rfl, hP, hKN⟩ := hv
  have hK := hKN.1
  have hx := B.exec
  have hb := B.bytes
  have hr := B.returns
  have hts := fun (w : Cond) (h : w ∈ gt) => atoms_spec (ws := w_PW_digest) B.pre w (List.mem_cons_of_mem _ h)
  have hown : s.vm.findClass R_PW = some m.cls := findClass_of_methodNamed B.named
  have hlocks := B.notSynchronized
  have hl := lv_entry ([.int a, .int b]) (n := 2) (Nat.le_of_ble_eq_true rfl)
  rw [lg_entry_eq]
  generalize (lg_sl ([.int a, .int b]) ++ List.replicate (2 - (lg_sl ([.int a, .int b])).length) Slot.unset).toArray = ls at hl ⊢
  have hl : lv_has ls 2 [(0, .int a), (1, .int b)] := hl
  refine lv_iload_n hx hb d_PW_digest_0 rfl (lv_at hl 0 rfl) ?_
  refine lv_iload_n hx hb d_PW_digest_1 rfl (lv_at hl 1 rfl) ?_
  refine pr_call (va_runSN (As := [.int a, .int b]) (rest := []) ⟨hx, hb, hml, hown, hts⟩ (c_TS_hash l dC dI cI (a := a) (b := b) ) ⟨va_cnB 2 hts (gd kw_66) rfl rfl rfl (nst_2 hKN.2) (hts _ kw_35) (by decide +kernel) ⟨Nat.le_of_ble_eq_true rfl, Nat.le_of_ble_eq_true rfl⟩, (hts _ kw_65), trivial⟩ ⟨fun a U g mk q => by obtain ⟨q0, qP, qK⟩ := q; exact ⟨q0, qP, qK.call⟩, fun U hU hW => ⟨rfl, by rw [hU]; exact hP.sub [] rfl, hKN.warm hW⟩⟩ rfl rfl hl.1 rfl (lv_room (Nat.le_of_ble_eq_true rfl)) d_PW_digest_2 ⟨Nat.zero_le _, Nat.zero_le _⟩) ?_
  exact W.iret (v := (hh a b)) hx hb hr (fun t ht hW => ⟨_, rfl, (by first | rfl | (simp only []; done) | (simp only []; rfl) | (simp []; done)), ht⟩) (fun q h => by cases h) d_PW_digest_5
set_option maxHeartbeats 4000000 in
set_option maxRecDepth 100000 in
theorem c_PW_isVersion (l : Launch) (dC : Nat → ClassId) (dI : Nat → Nat → Nat) (cI : ClassId) (v : Int32)  : Met l y_PW_isVersion w_PW_isVersion ({ frames := 0, cells := 0, slots := 0, locals := 0 }) (va_Pc [.int v] (fun U => va_P (dC, dI) classes [] U.heap ∧ KN dC dI cI U)) (qr (bI (isVer v))) 0 0 (fun _ => False) := by
  refine Met.ofW (cc := b_PW_isVersion) (maxL := 1) (ret := (some .boolean)) (by decide) rfl ?_
  intro p e s m args below meth c s₁ B hml hv
  obtain ⟨rfl, hP, hKN⟩ := hv
  have hK := hKN.1
  have hx := B.exec
  have hb := B.bytes
  have hr := B.returns
  have hts := fun (w : Cond) (h : w ∈ gt) => atoms_spec (ws := w_PW_isVersion) B.pre w (List.mem_cons_of_mem _ h)
  have hown : s.vm.findClass R_PW = some m.cls := findClass_of_methodNamed B.named
  have hlocks := B.notSynchronized
  have hl := lv_entry ([.int v]) (n := 1) (Nat.le_of_ble_eq_true rfl)
  rw [lg_entry_eq]
  generalize (lg_sl ([.int v]) ++ List.replicate (1 - (lg_sl ([.int v])).length) Slot.unset).toArray = ls at hl ⊢
  have hl : lv_has ls 1 [(0, .int v)] := hl
  refine lv_iload_n hx hb d_PW_isVersion_0 rfl (lv_at hl 0 rfl) ?_
  refine lv_iconst (v := (nI 1)) hx hb d_PW_isVersion_1 (by decide) ?_
  refine lv_icmp_lt (tgt := 15) hx hb d_PW_isVersion_2 (by decide) (fun h_1 => ?_) (fun h_1 => ?_)
  · refine lv_iconst (v := (nI 0)) hx hb d_PW_isVersion_15 (by decide) ?_
    exact W.zret (v := (bI false)) hx hb hr (bI_narrow _) (fun t ht hW => ⟨_, rfl, (by first | rfl | (simp only [isVer, if_pos h_1]; done) | (simp only [isVer, if_pos h_1]; rfl) | (simp [isVer, h_1]; done)), ht⟩) (fun q h => by cases h) d_PW_isVersion_16
  · refine lv_iload_n hx hb d_PW_isVersion_5 rfl (lv_at hl 0 rfl) ?_
    refine lv_bipush (v := (nI 32)) hx hb d_PW_isVersion_6 (by decide) ?_
    refine lv_icmp_gt (tgt := 15) hx hb d_PW_isVersion_8 (by decide) (fun h_2 => ?_) (fun h_2 => ?_)
    · refine lv_iconst (v := (nI 0)) hx hb d_PW_isVersion_15 (by decide) ?_
      exact W.zret (v := (bI false)) hx hb hr (bI_narrow _) (fun t ht hW => ⟨_, rfl, (by first | rfl | (simp only [isVer, if_neg h_1, if_pos h_2]; done) | (simp only [isVer, if_neg h_1, if_pos h_2]; rfl) | (simp [isVer, h_1, h_2]; done)), ht⟩) (fun q h => by cases h) d_PW_isVersion_16
    · refine lv_iconst (v := (nI 1)) hx hb d_PW_isVersion_11 (by decide) ?_
      refine lv_goto (tgt := 16) hx hb d_PW_isVersion_12 (by decide) ?_
      exact W.zret (v := (bI true)) hx hb hr (bI_narrow _) (fun t ht hW => ⟨_, rfl, (by first | rfl | (simp only [isVer, if_neg h_1, if_neg h_2]; done) | (simp only [isVer, if_neg h_1, if_neg h_2]; rfl) | (simp [isVer, h_1, h_2]; done)), ht⟩) (fun q h => by cases h) d_PW_isVersion_16
set_option maxHeartbeats 4000000 in
set_option maxRecDepth 100000 in
theorem c_St_recordPlace (l : Launch) (dC : Nat → ClassId) (dI : Nat → Nat → Nat) (cI : ClassId) (k : Nat)  : Met l y_St_recordPlace w_St_recordPlace ({ frames := 0, cells := 0, slots := 0, locals := 0 }) (va_Pc [.int (nI k)] (fun U => va_P (dC, dI) classes [] U.heap ∧ KN dC dI cI U)) (qr (nI (34 + 3 * k))) 0 0 (fun _ => False) := by
  refine Met.ofW (cc := b_St_recordPlace) (maxL := 1) (ret := (some .int)) (by decide) rfl ?_
  intro p e s m args below meth c s₁ B hml hv
  obtain ⟨rfl, hP, hKN⟩ := hv
  have hK := hKN.1
  have hx := B.exec
  have hb := B.bytes
  have hr := B.returns
  have hts := fun (w : Cond) (h : w ∈ gt) => atoms_spec (ws := w_St_recordPlace) B.pre w (List.mem_cons_of_mem _ h)
  have hown : s.vm.findClass R_St = some m.cls := findClass_of_methodNamed B.named
  have hlocks := B.notSynchronized
  have hl := lv_entry ([.int (nI k)]) (n := 1) (Nat.le_of_ble_eq_true rfl)
  rw [lg_entry_eq]
  generalize (lg_sl ([.int (nI k)]) ++ List.replicate (1 - (lg_sl ([.int (nI k)])).length) Slot.unset).toArray = ls at hl ⊢
  have hl : lv_has ls 1 [(0, .int (nI k))] := hl
  refine lv_bipush (v := (nI 34)) hx hb d_St_recordPlace_0 (by decide) ?_
  refine lv_iconst (v := (nI 3)) hx hb d_St_recordPlace_2 (by decide) ?_
  refine lv_iload_n hx hb d_St_recordPlace_3 rfl (lv_at hl 0 rfl) ?_
  refine lv_imul hx hb d_St_recordPlace_4 ?_
  refine tp (pk_mul _ _) ?_
  refine lv_iadd hx hb d_St_recordPlace_5 ?_
  refine tp (nI_add _ _) ?_
  exact W.iret (v := (nI (34 + (3 * k)))) hx hb hr (fun t ht hW => ⟨_, rfl, (by first | rfl | (simp only []; done) | (simp only []; rfl) | (simp []; done)), ht⟩) (fun q h => by cases h) d_St_recordPlace_6
set_option maxHeartbeats 4000000 in
set_option maxRecDepth 100000 in
theorem c_St_slotPlace (l : Launch) (dC : Nat → ClassId) (dI : Nat → Nat → Nat) (cI : ClassId) (k : Nat)  : Met l y_St_slotPlace w_St_slotPlace ({ frames := 0, cells := 0, slots := 0, locals := 0 }) (va_Pc [.int (nI k)] (fun U => va_P (dC, dI) classes [] U.heap ∧ KN dC dI cI U)) (qr (nI (k * 17))) 0 0 (fun _ => False) := by
  refine Met.ofW (cc := b_St_slotPlace) (maxL := 1) (ret := (some .int)) (by decide) rfl ?_
  intro p e s m args below meth c s₁ B hml hv
  obtain ⟨rfl, hP, hKN⟩ := hv
  have hK := hKN.1
  have hx := B.exec
  have hb := B.bytes
  have hr := B.returns
  have hts := fun (w : Cond) (h : w ∈ gt) => atoms_spec (ws := w_St_slotPlace) B.pre w (List.mem_cons_of_mem _ h)
  have hown : s.vm.findClass R_St = some m.cls := findClass_of_methodNamed B.named
  have hlocks := B.notSynchronized
  have hl := lv_entry ([.int (nI k)]) (n := 1) (Nat.le_of_ble_eq_true rfl)
  rw [lg_entry_eq]
  generalize (lg_sl ([.int (nI k)]) ++ List.replicate (1 - (lg_sl ([.int (nI k)])).length) Slot.unset).toArray = ls at hl ⊢
  have hl : lv_has ls 1 [(0, .int (nI k))] := hl
  refine lv_iload_n hx hb d_St_slotPlace_0 rfl (lv_at hl 0 rfl) ?_
  refine lv_bipush (v := (nI 17)) hx hb d_St_slotPlace_1 (by decide) ?_
  refine lv_imul hx hb d_St_slotPlace_3 ?_
  refine tp (pk_mul _ _) ?_
  exact W.iret (v := (nI (k * 17))) hx hb hr (fun t ht hW => ⟨_, rfl, (by first | rfl | (simp only []; done) | (simp only []; rfl) | (simp []; done)), ht⟩) (fun q h => by cases h) d_St_slotPlace_4
set_option maxHeartbeats 4000000 in
set_option maxRecDepth 100000 in
theorem c_TS_packagePlace (l : Launch) (dC : Nat → ClassId) (dI : Nat → Nat → Nat) (cI : ClassId) (k : Nat)  : Met l y_TS_packagePlace w_TS_packagePlace ({ frames := 0, cells := 0, slots := 0, locals := 0 }) (va_Pc [.int (nI k)] (fun U => va_P (dC, dI) classes [] U.heap ∧ KN dC dI cI U)) (qr (nI (k * 17))) 0 0 (fun _ => False) := by
  refine Met.ofW (cc := b_TS_packagePlace) (maxL := 1) (ret := (some .int)) (by decide) rfl ?_
  intro p e s m args below meth c s₁ B hml hv
  obtain ⟨rfl, hP, hKN⟩ := hv
  have hK := hKN.1
  have hx := B.exec
  have hb := B.bytes
  have hr := B.returns
  have hts := fun (w : Cond) (h : w ∈ gt) => atoms_spec (ws := w_TS_packagePlace) B.pre w (List.mem_cons_of_mem _ h)
  have hown : s.vm.findClass R_TS = some m.cls := findClass_of_methodNamed B.named
  have hlocks := B.notSynchronized
  have hl := lv_entry ([.int (nI k)]) (n := 1) (Nat.le_of_ble_eq_true rfl)
  rw [lg_entry_eq]
  generalize (lg_sl ([.int (nI k)]) ++ List.replicate (1 - (lg_sl ([.int (nI k)])).length) Slot.unset).toArray = ls at hl ⊢
  have hl : lv_has ls 1 [(0, .int (nI k))] := hl
  refine lv_iload_n hx hb d_TS_packagePlace_0 rfl (lv_at hl 0 rfl) ?_
  refine lv_bipush (v := (nI 17)) hx hb d_TS_packagePlace_1 (by decide) ?_
  refine lv_imul hx hb d_TS_packagePlace_3 ?_
  refine tp (pk_mul _ _) ?_
  exact W.iret (v := (nI (k * 17))) hx hb hr (fun t ht hW => ⟨_, rfl, (by first | rfl | (simp only []; done) | (simp only []; rfl) | (simp []; done)), ht⟩) (fun q h => by cases h) d_TS_packagePlace_4
set_option maxHeartbeats 4000000 in
set_option maxRecDepth 100000 in
theorem c_St_check (l : Launch) (dC : Nat → ClassId) (dI : Nat → Nat → Nat) (cI : ClassId) (a : Int32) (b : Int32)  : Met l y_St_check w_St_check ({ frames := 1, cells := 0, slots := 0, locals := 22 }) (va_Pc [.int a, .int b] (fun U => va_P (dC, dI) classes [] U.heap ∧ KN dC dI cI U)) (qr (ck a b)) 0 0 (fun _ => False) := by
  refine Met.ofW (cc := b_St_check) (maxL := 2) (ret := (some .int)) (by decide) rfl ?_
  intro p e s m args below meth c s₁ B hml hv
  obtain ⟨rfl, hP, hKN⟩ := hv
  have hK := hKN.1
  have hx := B.exec
  have hb := B.bytes
  have hr := B.returns
  have hts := fun (w : Cond) (h : w ∈ gt) => atoms_spec (ws := w_St_check) B.pre w (List.mem_cons_of_mem _ h)
  have hown : s.vm.findClass R_St = some m.cls := findClass_of_methodNamed B.named
  have hlocks := B.notSynchronized
  have hl := lv_entry ([.int a, .int b]) (n := 2) (Nat.le_of_ble_eq_true rfl)
  rw [lg_entry_eq]
  generalize (lg_sl ([.int a, .int b]) ++ List.replicate (2 - (lg_sl ([.int a, .int b])).length) Slot.unset).toArray = ls at hl ⊢
  have hl : lv_has ls 2 [(0, .int a), (1, .int b)] := hl
  refine lv_iload_n hx hb d_St_check_0 rfl (lv_at hl 0 rfl) ?_
  refine lv_iload_n hx hb d_St_check_1 rfl (lv_at hl 1 rfl) ?_
  refine pr_call (va_runSN (As := [.int a, .int b]) (rest := []) ⟨hx, hb, hml, hown, hts⟩ (c_TS_hash l dC dI cI (a := a) (b := b) ) ⟨va_cnB 2 hts (gd kw_66) rfl rfl rfl (nst_3 hKN.2) (hts _ kw_35) (by decide +kernel) ⟨Nat.le_of_ble_eq_true rfl, Nat.le_of_ble_eq_true rfl⟩, (hts _ kw_65), trivial⟩ ⟨fun a U g mk q => by obtain ⟨q0, qP, qK⟩ := q; exact ⟨q0, qP, qK.call⟩, fun U hU hW => ⟨rfl, by rw [hU]; exact hP.sub [] rfl, hKN.warm hW⟩⟩ rfl rfl hl.1 rfl (lv_room (Nat.le_of_ble_eq_true rfl)) d_St_check_2 ⟨Nat.zero_le _, Nat.zero_le _⟩) ?_
  refine lv_iconst (v := (nI 5)) hx hb d_St_check_5 (by decide) ?_
  refine pr_call (va_runSN (As := [.int (hh a b), .int (nI 5)]) (rest := []) ⟨hx, hb, hml, hown, hts⟩ (c_TS_hash l dC dI cI (a := hh a b) (b := (nI 5)) ) ⟨va_cnB 2 hts (gd kw_66) rfl rfl rfl (nst_3 hKN.2) (hts _ kw_35) (by decide +kernel) ⟨Nat.le_of_ble_eq_true rfl, Nat.le_of_ble_eq_true rfl⟩, (hts _ kw_65), trivial⟩ ⟨fun a U g mk q => by obtain ⟨q0, qP, qK⟩ := q; exact ⟨q0, qP, qK.call⟩, fun U hU hW => ⟨rfl, by rw [hU]; exact hP.sub [] rfl, hKN.warm hW⟩⟩ rfl rfl hl.1 rfl (lv_room (Nat.le_of_ble_eq_true rfl)) d_St_check_6 ⟨Nat.zero_le _, Nat.zero_le _⟩) ?_
  exact W.iret (v := (hh (hh a b) (nI 5))) hx hb hr (fun t ht hW => ⟨_, rfl, (by first | rfl | (simp only []; done) | (simp only []; rfl) | (simp []; done)), ht⟩) (fun q h => by cases h) d_St_check_9
set_option maxHeartbeats 4000000 in
set_option maxRecDepth 100000 in
theorem c_St_isPlace (l : Launch) (dC : Nat → ClassId) (dI : Nat → Nat → Nat) (cI : ClassId) (v : Int32)  : Met l y_St_isPlace w_St_isPlace ({ frames := 0, cells := 0, slots := 0, locals := 0 }) (va_Pc [.int v] (fun U => va_P (dC, dI) classes [] U.heap ∧ KN dC dI cI U)) (qr (bI (isPl v))) 0 0 (fun _ => False) := by
  refine Met.ofW (cc := b_St_isPlace) (maxL := 1) (ret := (some .boolean)) (by decide) rfl ?_
  intro p e s m args below meth c s₁ B hml hv
  obtain ⟨rfl, hP, hKN⟩ := hv
  have hK := hKN.1
  have hx := B.exec
  have hb := B.bytes
  have hr := B.returns
  have hts := fun (w : Cond) (h : w ∈ gt) => atoms_spec (ws := w_St_isPlace) B.pre w (List.mem_cons_of_mem _ h)
  have hown : s.vm.findClass R_St = some m.cls := findClass_of_methodNamed B.named
  have hlocks := B.notSynchronized
  have hl := lv_entry ([.int v]) (n := 1) (Nat.le_of_ble_eq_true rfl)
  rw [lg_entry_eq]
  generalize (lg_sl ([.int v]) ++ List.replicate (1 - (lg_sl ([.int v])).length) Slot.unset).toArray = ls at hl ⊢
  have hl : lv_has ls 1 [(0, .int v)] := hl
  refine lv_iload_n hx hb d_St_isPlace_0 rfl (lv_at hl 0 rfl) ?_
  refine lv_if_lt (tgt := 14) hx hb d_St_isPlace_1 (by decide) (fun h_1 => ?_) (fun h_1 => ?_)
  · refine lv_iconst (v := (nI 0)) hx hb d_St_isPlace_14 (by decide) ?_
    exact W.zret (v := (bI false)) hx hb hr (bI_narrow _) (fun t ht hW => ⟨_, rfl, (by first | rfl | (simp only [isPl, if_pos h_1]; done) | (simp only [isPl, if_pos h_1]; rfl) | (simp [isPl, h_1]; done)), ht⟩) (fun q h => by cases h) d_St_isPlace_15
  · refine lv_iload_n hx hb d_St_isPlace_4 rfl (lv_at hl 0 rfl) ?_
    refine lv_bipush (v := (nI 40)) hx hb d_St_isPlace_5 (by decide) ?_
    refine lv_icmp_ge (tgt := 14) hx hb d_St_isPlace_7 (by decide) (fun h_2 => ?_) (fun h_2 => ?_)
    · refine lv_iconst (v := (nI 0)) hx hb d_St_isPlace_14 (by decide) ?_
      exact W.zret (v := (bI false)) hx hb hr (bI_narrow _) (fun t ht hW => ⟨_, rfl, (by first | rfl | (simp only [isPl, if_neg h_1, if_pos h_2]; done) | (simp only [isPl, if_neg h_1, if_pos h_2]; rfl) | (simp [isPl, h_1, h_2]; done)), ht⟩) (fun q h => by cases h) d_St_isPlace_15
    · refine lv_iconst (v := (nI 1)) hx hb d_St_isPlace_10 (by decide) ?_
      refine lv_goto (tgt := 15) hx hb d_St_isPlace_11 (by decide) ?_
      exact W.zret (v := (bI true)) hx hb hr (bI_narrow _) (fun t ht hW => ⟨_, rfl, (by first | rfl | (simp only [isPl, if_neg h_1, if_neg h_2]; done) | (simp only [isPl, if_neg h_1, if_neg h_2]; rfl) | (simp [isPl, h_1, h_2]; done)), ht⟩) (fun q h => by cases h) d_St_isPlace_15
set_option maxHeartbeats 4000000 in
set_option maxRecDepth 100000 in
theorem c_Sg_above (l : Launch) (dC : Nat → ClassId) (dI : Nat → Nat → Nat) (cI : ClassId) (a : Int32) (b : Int32) (k : Nat)  : Met l y_Sg_above w_Sg_above ({ frames := 1, cells := 0, slots := 0, locals := 22 }) (va_Pc [.int a, .int b, .int (nI k)] (fun U => va_P (dC, dI) classes [] U.heap ∧ KN dC dI cI U)) (qr (ab a b k)) 0 0 (fun _ => False) := by
  refine Met.ofW (cc := b_Sg_above) (maxL := 3) (ret := (some .int)) (by decide) rfl ?_
  intro p e s m args below meth c s₁ B hml hv
  obtain ⟨rfl, hP, hKN⟩ := hv
  have hK := hKN.1
  have hx := B.exec
  have hb := B.bytes
  have hr := B.returns
  have hts := fun (w : Cond) (h : w ∈ gt) => atoms_spec (ws := w_Sg_above) B.pre w (List.mem_cons_of_mem _ h)
  have hown : s.vm.findClass R_Sg = some m.cls := findClass_of_methodNamed B.named
  have hlocks := B.notSynchronized
  have hl := lv_entry ([.int a, .int b, .int (nI k)]) (n := 3) (Nat.le_of_ble_eq_true rfl)
  rw [lg_entry_eq]
  generalize (lg_sl ([.int a, .int b, .int (nI k)]) ++ List.replicate (3 - (lg_sl ([.int a, .int b, .int (nI k)])).length) Slot.unset).toArray = ls at hl ⊢
  have hl : lv_has ls 3 [(0, .int a), (1, .int b), (2, .int (nI k))] := hl
  refine lv_iload_n hx hb d_Sg_above_0 rfl (lv_at hl 0 rfl) ?_
  refine lv_iload_n hx hb d_Sg_above_1 rfl (lv_at hl 1 rfl) ?_
  refine pr_call (va_runSN (As := [.int a, .int b]) (rest := []) ⟨hx, hb, hml, hown, hts⟩ (c_TS_hash l dC dI cI (a := a) (b := b) ) ⟨va_cnB 2 hts (gd kw_66) rfl rfl rfl (nst_1 hKN.2) (hts _ kw_35) (by decide +kernel) ⟨Nat.le_of_ble_eq_true rfl, Nat.le_of_ble_eq_true rfl⟩, (hts _ kw_65), trivial⟩ ⟨fun a U g mk q => by obtain ⟨q0, qP, qK⟩ := q; exact ⟨q0, qP, qK.call⟩, fun U hU hW => ⟨rfl, by rw [hU]; exact hP.sub [] rfl, hKN.warm hW⟩⟩ rfl rfl hl.1 rfl (lv_room (Nat.le_of_ble_eq_true rfl)) d_Sg_above_2 ⟨Nat.zero_le _, Nat.zero_le _⟩) ?_
  refine lv_iload_n hx hb d_Sg_above_5 rfl (lv_at hl 2 rfl) ?_
  refine pr_call (va_runSN (As := [.int (hh a b), .int (nI k)]) (rest := []) ⟨hx, hb, hml, hown, hts⟩ (c_TS_hash l dC dI cI (a := hh a b) (b := (nI k)) ) ⟨va_cnB 2 hts (gd kw_66) rfl rfl rfl (nst_1 hKN.2) (hts _ kw_35) (by decide +kernel) ⟨Nat.le_of_ble_eq_true rfl, Nat.le_of_ble_eq_true rfl⟩, (hts _ kw_65), trivial⟩ ⟨fun a U g mk q => by obtain ⟨q0, qP, qK⟩ := q; exact ⟨q0, qP, qK.call⟩, fun U hU hW => ⟨rfl, by rw [hU]; exact hP.sub [] rfl, hKN.warm hW⟩⟩ rfl rfl hl.1 rfl (lv_room (Nat.le_of_ble_eq_true rfl)) d_Sg_above_6 ⟨Nat.zero_le _, Nat.zero_le _⟩) ?_
  exact W.iret (v := (hh (hh a b) (nI k))) hx hb hr (fun t ht hW => ⟨_, rfl, (by first | rfl | (simp only []; done) | (simp only []; rfl) | (simp []; done)), ht⟩) (fun q h => by cases h) d_Sg_above_9
set_option maxHeartbeats 4000000 in
set_option maxRecDepth 100000 in
theorem c_Mk_chainStart (l : Launch) (dC : Nat → ClassId) (dI : Nat → Nat → Nat) (cI : ClassId) (sc : Int32) (q : Nat) (ch : Nat)  : Met l y_Mk_chainStart w_Mk_chainStart ({ frames := 1, cells := 0, slots := 0, locals := 22 }) (va_Pc [.int sc, .int (nI q), .int (nI ch)] (fun U => va_P (dC, dI) classes [] U.heap ∧ KN dC dI cI U)) (qr (cs sc q ch)) 0 0 (fun _ => False) := by
  refine Met.ofW (cc := b_Mk_chainStart) (maxL := 3) (ret := (some .int)) (by decide) rfl ?_
  intro p e s m args below meth c s₁ B hml hv
  obtain ⟨rfl, hP, hKN⟩ := hv
  have hK := hKN.1
  have hx := B.exec
  have hb := B.bytes
  have hr := B.returns
  have hts := fun (w : Cond) (h : w ∈ gt) => atoms_spec (ws := w_Mk_chainStart) B.pre w (List.mem_cons_of_mem _ h)
  have hown : s.vm.findClass R_Mk = some m.cls := findClass_of_methodNamed B.named
  have hlocks := B.notSynchronized
  have hl := lv_entry ([.int sc, .int (nI q), .int (nI ch)]) (n := 3) (Nat.le_of_ble_eq_true rfl)
  rw [lg_entry_eq]
  generalize (lg_sl ([.int sc, .int (nI q), .int (nI ch)]) ++ List.replicate (3 - (lg_sl ([.int sc, .int (nI q), .int (nI ch)])).length) Slot.unset).toArray = ls at hl ⊢
  have hl : lv_has ls 3 [(0, .int sc), (1, .int (nI q)), (2, .int (nI ch))] := hl
  refine lv_iload_n hx hb d_Mk_chainStart_0 rfl (lv_at hl 0 rfl) ?_
  refine lv_iload_n hx hb d_Mk_chainStart_1 rfl (lv_at hl 1 rfl) ?_
  refine pr_call (va_runSN (As := [.int sc, .int (nI q)]) (rest := []) ⟨hx, hb, hml, hown, hts⟩ (c_TS_hash l dC dI cI (a := sc) (b := (nI q)) ) ⟨va_cnB 2 hts (gd kw_66) rfl rfl rfl (nst_0 hKN.2) (hts _ kw_35) (by decide +kernel) ⟨Nat.le_of_ble_eq_true rfl, Nat.le_of_ble_eq_true rfl⟩, (hts _ kw_65), trivial⟩ ⟨fun a U g mk q => by obtain ⟨q0, qP, qK⟩ := q; exact ⟨q0, qP, qK.call⟩, fun U hU hW => ⟨rfl, by rw [hU]; exact hP.sub [] rfl, hKN.warm hW⟩⟩ rfl rfl hl.1 rfl (lv_room (Nat.le_of_ble_eq_true rfl)) d_Mk_chainStart_2 ⟨Nat.zero_le _, Nat.zero_le _⟩) ?_
  refine lv_iload_n hx hb d_Mk_chainStart_5 rfl (lv_at hl 2 rfl) ?_
  refine pr_call (va_runSN (As := [.int (hh sc (nI q)), .int (nI ch)]) (rest := []) ⟨hx, hb, hml, hown, hts⟩ (c_TS_hash l dC dI cI (a := hh sc (nI q)) (b := (nI ch)) ) ⟨va_cnB 2 hts (gd kw_66) rfl rfl rfl (nst_0 hKN.2) (hts _ kw_35) (by decide +kernel) ⟨Nat.le_of_ble_eq_true rfl, Nat.le_of_ble_eq_true rfl⟩, (hts _ kw_65), trivial⟩ ⟨fun a U g mk q => by obtain ⟨q0, qP, qK⟩ := q; exact ⟨q0, qP, qK.call⟩, fun U hU hW => ⟨rfl, by rw [hU]; exact hP.sub [] rfl, hKN.warm hW⟩⟩ rfl rfl hl.1 rfl (lv_room (Nat.le_of_ble_eq_true rfl)) d_Mk_chainStart_6 ⟨Nat.zero_le _, Nat.zero_le _⟩) ?_
  exact W.iret (v := (hh (hh sc (nI q)) (nI ch))) hx hb hr (fun t ht hW => ⟨_, rfl, (by first | rfl | (simp only []; done) | (simp only []; rfl) | (simp []; done)), ht⟩) (fun q h => by cases h) d_Mk_chainStart_9
set_option maxHeartbeats 4000000 in
set_option maxRecDepth 100000 in
theorem c_Sg_walk (l : Launch) (dC : Nat → ClassId) (dI : Nat → Nat → Nat) (cI : ClassId) (x : Int32) (ch : Nat) (fr : Nat) (to : Nat) (hfr : fr ≤ 15) (hto : to ≤ 15) : Met l y_Sg_walk w_Sg_walk ({ frames := 1, cells := 0, slots := 0, locals := 22 }) (va_Pc [.int x, .int (nI ch), .int (nI fr), .int (nI to)] (fun U => va_P (dC, dI) classes [] U.heap ∧ KN dC dI cI U)) (qr (al ch (to - fr) fr x)) 0 0 (fun _ => False) := by
  refine Met.ofW (cc := b_Sg_walk) (maxL := 6) (ret := (some .int)) (by decide) rfl ?_
  intro p e s m args below meth c s₁ B hml hv
  obtain ⟨rfl, hP, hKN⟩ := hv
  have hK := hKN.1
  have hx := B.exec
  have hb := B.bytes
  have hr := B.returns
  have hts := fun (w : Cond) (h : w ∈ gt) => atoms_spec (ws := w_Sg_walk) B.pre w (List.mem_cons_of_mem _ h)
  have hown : s.vm.findClass R_Sg = some m.cls := findClass_of_methodNamed B.named
  have hlocks := B.notSynchronized
  have hl := lv_entry ([.int x, .int (nI ch), .int (nI fr), .int (nI to)]) (n := 6) (Nat.le_of_ble_eq_true rfl)
  rw [lg_entry_eq]
  generalize (lg_sl ([.int x, .int (nI ch), .int (nI fr), .int (nI to)]) ++ List.replicate (6 - (lg_sl ([.int x, .int (nI ch), .int (nI fr), .int (nI to)])).length) Slot.unset).toArray = ls at hl ⊢
  have hl : lv_has ls 6 [(0, .int x), (1, .int (nI ch)), (2, .int (nI fr)), (3, .int (nI to))] := hl
  refine lv_iload_n hx hb d_Sg_walk_0 rfl (lv_at hl 0 rfl) ?_
  refine lv_istore (lv' := [(4, .int x), (0, .int x), (1, .int (nI ch)), (2, .int (nI fr)), (3, .int (nI to))]) hx hb d_Sg_walk_1 hl (by decide) rfl (fun ls hl => ?_)
  refine lv_iload_n hx hb d_Sg_walk_3 rfl (lv_at hl 3 rfl) ?_
  refine lv_istore (lv' := [(5, .int (nI fr)), (4, .int x), (0, .int x), (1, .int (nI ch)), (2, .int (nI fr)), (3, .int (nI to))]) hx hb d_Sg_walk_4 hl (by decide) rfl (fun ls hl => ?_)
  refine wloopP (ι := Int32 × Nat) (fun i => to - (i.2)) (fun i ls => ((i.2) ≤ 15 ∧ al ch (to - fr) fr x = al ch (to - (i.2)) (i.2) (i.1)) ∧ lv_has ls 6 [(5, .int (nI (i.2))), (4, .int (i.1)), (0, .int x), (1, .int (nI ch)), (2, .int (nI fr)), (3, .int (nI to))]) ?_ (x, fr) ⟨⟨by omega, rfl⟩, hl⟩
  clear hl
  rintro ⟨y, k⟩ ls ⟨hinv, hl⟩ ih
  dsimp only at hinv hl ih
  obtain ⟨hk15, hk⟩ := hinv
  have hinv := And.intro hk15 hk
  refine lv_iload hx hb d_Sg_walk_6 (lv_at hl 0 rfl) ?_
  refine lv_iload_n hx hb d_Sg_walk_8 rfl (lv_at hl 5 rfl) ?_
  refine nb_ge (tgt := 32) hx hb d_Sg_walk_9 (by decide) (by first | omega | exact Nat.lt_of_lt_of_le (stt_lt _ _) (by decide)) (by first | omega | exact Nat.lt_of_lt_of_le (stt_lt _ _) (by decide)) (fun h_1 => ?_) (fun h_1 => ?_)
  · refine lv_iload hx hb d_Sg_walk_32 (lv_at hl 1 rfl) ?_
    exact W.iret (v := y) hx hb hr (fun t ht hW => ⟨_, rfl, (by rw [hk, show to - k = 0 by omega, al_0]), ht⟩) (fun q h => by cases h) d_Sg_walk_34
  · refine lv_iload hx hb d_Sg_walk_12 (lv_at hl 1 rfl) ?_
    refine lv_bipush (v := (nI 16)) hx hb d_Sg_walk_14 (by decide) ?_
    refine lv_iload_n hx hb d_Sg_walk_16 rfl (lv_at hl 3 rfl) ?_
    refine lv_imul hx hb d_Sg_walk_17 ?_
    refine tp (pk_mul _ _) ?_
    refine lv_iload hx hb d_Sg_walk_18 (lv_at hl 0 rfl) ?_
    refine lv_iadd hx hb d_Sg_walk_20 ?_
    refine tp (nI_add _ _) ?_
    refine pr_call (va_runSN (As := [.int y, .int (nI ((16 * ch) + k))]) (rest := []) ⟨hx, hb, hml, hown, hts⟩ (c_TS_hash l dC dI cI (a := y) (b := (nI ((16 * ch) + k))) ) ⟨va_cnB 2 hts (gd kw_66) rfl rfl rfl (nst_1 hKN.2) (hts _ kw_35) (by decide +kernel) ⟨Nat.le_of_ble_eq_true rfl, Nat.le_of_ble_eq_true rfl⟩, (hts _ kw_65), trivial⟩ ⟨fun a U g mk q => by obtain ⟨q0, qP, qK⟩ := q; exact ⟨q0, qP, qK.call⟩, fun U hU hW => ⟨rfl, by rw [hU]; exact hP.sub [] rfl, hKN.warm hW⟩⟩ rfl rfl hl.1 rfl (lv_room (Nat.le_of_ble_eq_true rfl)) d_Sg_walk_21 ⟨Nat.zero_le _, Nat.zero_le _⟩) ?_
    refine lv_istore (lv' := [(4, .int (hh y (nI ((16 * ch) + k)))), (5, .int (nI k)), (0, .int x), (1, .int (nI ch)), (2, .int (nI fr)), (3, .int (nI to))]) hx hb d_Sg_walk_24 hl (by decide) rfl (fun ls hl => ?_)
    refine lv_iinc (k := 1) (v := (nI (k + 1))) (lv' := [(5, .int (nI (k + 1))), (4, .int (hh y (nI ((16 * ch) + k)))), (0, .int x), (1, .int (nI ch)), (2, .int (nI fr)), (3, .int (nI to))]) hx hb d_Sg_walk_26 hl rfl (nI_inc _) (by decide) rfl (fun ls hl => ?_)
    refine lv_goto (tgt := 6) hx hb d_Sg_walk_29 (by decide) ?_
    exact ih (hh y (nI ((16 * ch) + k)), k + 1) ls (by show to - (k + 1) < to - k; omega) ⟨⟨by (try dsimp only); omega, by rw [hinv.2, show to - k = (to - (k + 1)) + 1 by omega, al_s]⟩, hl⟩
set_option maxHeartbeats 4000000 in
set_option maxRecDepth 100000 in
theorem c_Sg_message (l : Launch) (dC : Nat → ClassId) (dI : Nat → Nat → Nat) (cI : ClassId) (ha : Nat) (b : Nat) (N : Nat) (f : Nat → Int32) (hN : N < 2 ^ 31) (hbN : b + 17 ≤ N) : Met l y_Sg_message w_Sg_message ({ frames := 1, cells := 0, slots := 0, locals := 22 }) (va_Pc [.ref ha, .int (nI b)] (fun U => va_P (dC, dI) classes [(ha, .inl (cI, N, .inl f))] U.heap ∧ KN dC dI cI U)) (qr (ms4 (fun i => f (b + i)))) 0 0 (fun _ => False) := by
  refine Met.ofW (cc := b_Sg_message) (maxL := 4) (ret := (some .int)) (by decide) rfl ?_
  intro p e s m args below meth c s₁ B hml hv
  obtain ⟨rfl, hP, hKN⟩ := hv
  have hK := hKN.1
  have hx := B.exec
  have hb := B.bytes
  have hr := B.returns
  have hts := fun (w : Cond) (h : w ∈ gt) => atoms_spec (ws := w_Sg_message) B.pre w (List.mem_cons_of_mem _ h)
  have hown : s.vm.findClass R_Sg = some m.cls := findClass_of_methodNamed B.named
  have hlocks := B.notSynchronized
  have hl := lv_entry ([.ref ha, .int (nI b)]) (n := 4) (Nat.le_of_ble_eq_true rfl)
  rw [lg_entry_eq]
  generalize (lg_sl ([.ref ha, .int (nI b)]) ++ List.replicate (4 - (lg_sl ([.ref ha, .int (nI b)])).length) Slot.unset).toArray = ls at hl ⊢
  have hl : lv_has ls 4 [(0, .ref ha), (1, .int (nI b))] := hl
  refine lv_bipush (v := (nI 17)) hx hb d_Sg_message_0 (by decide) ?_
  refine lv_istore_n (lv' := [(2, .int (nI 17)), (0, .ref ha), (1, .int (nI b))]) hx hb d_Sg_message_2 rfl hl (by decide) rfl (fun ls hl => ?_)
  refine lv_iconst (v := (nI 0)) hx hb d_Sg_message_3 (by decide) ?_
  refine lv_istore_n (lv' := [(3, .int (nI 0)), (2, .int (nI 17)), (0, .ref ha), (1, .int (nI b))]) hx hb d_Sg_message_4 rfl hl (by decide) rfl (fun ls hl => ?_)
  refine lv_iload_n hx hb d_Sg_message_5 rfl (lv_at hl 0 rfl) ?_
  refine lv_iconst (v := (nI 4)) hx hb d_Sg_message_6 (by decide) ?_
  refine nb_ge (tgt := 26) hx hb d_Sg_message_7 (by decide) (by decide) (by decide) (fun h_1 => ?_) (fun h_1 => ?_)
  · exact absurd h_1 (by decide)
  · refine lv_iload_n hx hb d_Sg_message_10 rfl (lv_at hl 1 rfl) ?_
    refine lv_aload_n hx hb d_Sg_message_11 rfl (lv_at hl 2 rfl) ?_
    refine lv_iload_n hx hb d_Sg_message_12 rfl (lv_at hl 3 rfl) ?_
    refine lv_iload_n hx hb d_Sg_message_13 rfl (lv_at hl 0 rfl) ?_
    refine lv_iadd hx hb d_Sg_message_14 ?_
    refine tp (y := (nI b)) (nI_add _ _) ?_
    refine ar_ld (k := b) hx hb hK hP 0 0 rfl rfl (by omega) (by first | decide | omega) d_Sg_message_15 ?_
    refine pr_call (va_runSN (As := [.int (nI 17), .int (f b)]) (rest := []) ⟨hx, hb, hml, hown, hts⟩ (c_TS_hash l dC dI cI (a := (nI 17)) (b := f b) ) ⟨va_cnB 2 hts (gd kw_66) rfl rfl rfl (nst_1 hKN.2) (hts _ kw_35) (by decide +kernel) ⟨Nat.le_of_ble_eq_true rfl, Nat.le_of_ble_eq_true rfl⟩, (hts _ kw_65), trivial⟩ ⟨fun a U g mk q => by obtain ⟨q0, qP, qK⟩ := q; exact ⟨q0, qP, qK.call⟩, fun U hU hW => ⟨rfl, by rw [hU]; exact hP.sub [] rfl, hKN.warm hW⟩⟩ rfl rfl hl.1 rfl (lv_room (Nat.le_of_ble_eq_true rfl)) d_Sg_message_16 ⟨Nat.zero_le _, Nat.zero_le _⟩) ?_
    refine lv_istore_n (lv' := [(2, .int (hh (nI 17) (f b))), (3, .int (nI 0)), (0, .ref ha), (1, .int (nI b))]) hx hb d_Sg_message_19 rfl hl (by decide) rfl (fun ls hl => ?_)
    refine lv_iinc (k := 1) (v := (nI 1)) (lv' := [(3, .int (nI 1)), (2, .int (hh (nI 17) (f b))), (0, .ref ha), (1, .int (nI b))]) hx hb d_Sg_message_20 hl rfl (by decide) (by decide) rfl (fun ls hl => ?_)
    refine lv_goto (tgt := 5) hx hb d_Sg_message_23 (by decide) ?_
    refine lv_iload_n hx hb d_Sg_message_5 rfl (lv_at hl 0 rfl) ?_
    refine lv_iconst (v := (nI 4)) hx hb d_Sg_message_6 (by decide) ?_
    refine nb_ge (tgt := 26) hx hb d_Sg_message_7 (by decide) (by decide) (by decide) (fun h_2 => ?_) (fun h_2 => ?_)
    · exact absurd h_2 (by decide)
    · refine lv_iload_n hx hb d_Sg_message_10 rfl (lv_at hl 1 rfl) ?_
      refine lv_aload_n hx hb d_Sg_message_11 rfl (lv_at hl 2 rfl) ?_
      refine lv_iload_n hx hb d_Sg_message_12 rfl (lv_at hl 3 rfl) ?_
      refine lv_iload_n hx hb d_Sg_message_13 rfl (lv_at hl 0 rfl) ?_
      refine lv_iadd hx hb d_Sg_message_14 ?_
      refine tp (nI_add _ _) ?_
      refine ar_ld (k := b + 1) hx hb hK hP 0 0 rfl rfl (by omega) (by first | decide | omega) d_Sg_message_15 ?_
      refine pr_call (va_runSN (As := [.int (hh (nI 17) (f b)), .int (f (b + 1))]) (rest := []) ⟨hx, hb, hml, hown, hts⟩ (c_TS_hash l dC dI cI (a := hh (nI 17) (f b)) (b := f (b + 1)) ) ⟨va_cnB 2 hts (gd kw_66) rfl rfl rfl (nst_1 hKN.2) (hts _ kw_35) (by decide +kernel) ⟨Nat.le_of_ble_eq_true rfl, Nat.le_of_ble_eq_true rfl⟩, (hts _ kw_65), trivial⟩ ⟨fun a U g mk q => by obtain ⟨q0, qP, qK⟩ := q; exact ⟨q0, qP, qK.call⟩, fun U hU hW => ⟨rfl, by rw [hU]; exact hP.sub [] rfl, hKN.warm hW⟩⟩ rfl rfl hl.1 rfl (lv_room (Nat.le_of_ble_eq_true rfl)) d_Sg_message_16 ⟨Nat.zero_le _, Nat.zero_le _⟩) ?_
      refine lv_istore_n (lv' := [(2, .int (hh (hh (nI 17) (f b)) (f (b + 1)))), (3, .int (nI 1)), (0, .ref ha), (1, .int (nI b))]) hx hb d_Sg_message_19 rfl hl (by decide) rfl (fun ls hl => ?_)
      refine lv_iinc (k := 1) (v := (nI 2)) (lv' := [(3, .int (nI 2)), (2, .int (hh (hh (nI 17) (f b)) (f (b + 1)))), (0, .ref ha), (1, .int (nI b))]) hx hb d_Sg_message_20 hl rfl (by decide) (by decide) rfl (fun ls hl => ?_)
      refine lv_goto (tgt := 5) hx hb d_Sg_message_23 (by decide) ?_
      refine lv_iload_n hx hb d_Sg_message_5 rfl (lv_at hl 0 rfl) ?_
      refine lv_iconst (v := (nI 4)) hx hb d_Sg_message_6 (by decide) ?_
      refine nb_ge (tgt := 26) hx hb d_Sg_message_7 (by decide) (by decide) (by decide) (fun h_3 => ?_) (fun h_3 => ?_)
      · exact absurd h_3 (by decide)
      · refine lv_iload_n hx hb d_Sg_message_10 rfl (lv_at hl 1 rfl) ?_
        refine lv_aload_n hx hb d_Sg_message_11 rfl (lv_at hl 2 rfl) ?_
        refine lv_iload_n hx hb d_Sg_message_12 rfl (lv_at hl 3 rfl) ?_
        refine lv_iload_n hx hb d_Sg_message_13 rfl (lv_at hl 0 rfl) ?_
        refine lv_iadd hx hb d_Sg_message_14 ?_
        refine tp (nI_add _ _) ?_
        refine ar_ld (k := b + 2) hx hb hK hP 0 0 rfl rfl (by omega) (by first | decide | omega) d_Sg_message_15 ?_
        refine pr_call (va_runSN (As := [.int (hh (hh (nI 17) (f b)) (f (b + 1))), .int (f (b + 2))]) (rest := []) ⟨hx, hb, hml, hown, hts⟩ (c_TS_hash l dC dI cI (a := hh (hh (nI 17) (f b)) (f (b + 1))) (b := f (b + 2)) ) ⟨va_cnB 2 hts (gd kw_66) rfl rfl rfl (nst_1 hKN.2) (hts _ kw_35) (by decide +kernel) ⟨Nat.le_of_ble_eq_true rfl, Nat.le_of_ble_eq_true rfl⟩, (hts _ kw_65), trivial⟩ ⟨fun a U g mk q => by obtain ⟨q0, qP, qK⟩ := q; exact ⟨q0, qP, qK.call⟩, fun U hU hW => ⟨rfl, by rw [hU]; exact hP.sub [] rfl, hKN.warm hW⟩⟩ rfl rfl hl.1 rfl (lv_room (Nat.le_of_ble_eq_true rfl)) d_Sg_message_16 ⟨Nat.zero_le _, Nat.zero_le _⟩) ?_
        refine lv_istore_n (lv' := [(2, .int (hh (hh (hh (nI 17) (f b)) (f (b + 1))) (f (b + 2)))), (3, .int (nI 2)), (0, .ref ha), (1, .int (nI b))]) hx hb d_Sg_message_19 rfl hl (by decide) rfl (fun ls hl => ?_)
        refine lv_iinc (k := 1) (v := (nI 3)) (lv' := [(3, .int (nI 3)), (2, .int (hh (hh (hh (nI 17) (f b)) (f (b + 1))) (f (b + 2)))), (0, .ref ha), (1, .int (nI b))]) hx hb d_Sg_message_20 hl rfl (by decide) (by decide) rfl (fun ls hl => ?_)
        refine lv_goto (tgt := 5) hx hb d_Sg_message_23 (by decide) ?_
        refine lv_iload_n hx hb d_Sg_message_5 rfl (lv_at hl 0 rfl) ?_
        refine lv_iconst (v := (nI 4)) hx hb d_Sg_message_6 (by decide) ?_
        refine nb_ge (tgt := 26) hx hb d_Sg_message_7 (by decide) (by decide) (by decide) (fun h_4 => ?_) (fun h_4 => ?_)
        · exact absurd h_4 (by decide)
        · refine lv_iload_n hx hb d_Sg_message_10 rfl (lv_at hl 1 rfl) ?_
          refine lv_aload_n hx hb d_Sg_message_11 rfl (lv_at hl 2 rfl) ?_
          refine lv_iload_n hx hb d_Sg_message_12 rfl (lv_at hl 3 rfl) ?_
          refine lv_iload_n hx hb d_Sg_message_13 rfl (lv_at hl 0 rfl) ?_
          refine lv_iadd hx hb d_Sg_message_14 ?_
          refine tp (nI_add _ _) ?_
          refine ar_ld (k := b + 3) hx hb hK hP 0 0 rfl rfl (by omega) (by first | decide | omega) d_Sg_message_15 ?_
          refine pr_call (va_runSN (As := [.int (hh (hh (hh (nI 17) (f b)) (f (b + 1))) (f (b + 2))), .int (f (b + 3))]) (rest := []) ⟨hx, hb, hml, hown, hts⟩ (c_TS_hash l dC dI cI (a := hh (hh (hh (nI 17) (f b)) (f (b + 1))) (f (b + 2))) (b := f (b + 3)) ) ⟨va_cnB 2 hts (gd kw_66) rfl rfl rfl (nst_1 hKN.2) (hts _ kw_35) (by decide +kernel) ⟨Nat.le_of_ble_eq_true rfl, Nat.le_of_ble_eq_true rfl⟩, (hts _ kw_65), trivial⟩ ⟨fun a U g mk q => by obtain ⟨q0, qP, qK⟩ := q; exact ⟨q0, qP, qK.call⟩, fun U hU hW => ⟨rfl, by rw [hU]; exact hP.sub [] rfl, hKN.warm hW⟩⟩ rfl rfl hl.1 rfl (lv_room (Nat.le_of_ble_eq_true rfl)) d_Sg_message_16 ⟨Nat.zero_le _, Nat.zero_le _⟩) ?_
          refine lv_istore_n (lv' := [(2, .int (hh (hh (hh (hh (nI 17) (f b)) (f (b + 1))) (f (b + 2))) (f (b + 3)))), (3, .int (nI 3)), (0, .ref ha), (1, .int (nI b))]) hx hb d_Sg_message_19 rfl hl (by decide) rfl (fun ls hl => ?_)
          refine lv_iinc (k := 1) (v := (nI 4)) (lv' := [(3, .int (nI 4)), (2, .int (hh (hh (hh (hh (nI 17) (f b)) (f (b + 1))) (f (b + 2))) (f (b + 3)))), (0, .ref ha), (1, .int (nI b))]) hx hb d_Sg_message_20 hl rfl (by decide) (by decide) rfl (fun ls hl => ?_)
          refine lv_goto (tgt := 5) hx hb d_Sg_message_23 (by decide) ?_
          refine lv_iload_n hx hb d_Sg_message_5 rfl (lv_at hl 0 rfl) ?_
          refine lv_iconst (v := (nI 4)) hx hb d_Sg_message_6 (by decide) ?_
          refine nb_ge (tgt := 26) hx hb d_Sg_message_7 (by decide) (by decide) (by decide) (fun h_5 => ?_) (fun h_5 => ?_)
          · refine lv_iload_n hx hb d_Sg_message_26 rfl (lv_at hl 1 rfl) ?_
            exact W.iret (v := (hh (hh (hh (hh (nI 17) (f b)) (f (b + 1))) (f (b + 2))) (f (b + 3)))) hx hb hr (fun t ht hW => ⟨_, rfl, (by first | rfl | (simp only []; done) | (simp only []; rfl) | (simp []; done)), ht⟩) (fun q h => by cases h) d_Sg_message_27
          · exact absurd h_5 (by decide)
set_option maxHeartbeats 4000000 in
set_option maxRecDepth 100000 in
theorem c_Sg_digit (l : Launch) (dC : Nat → ClassId) (dI : Nat → Nat → Nat) (cI : ClassId) (mm : Int32) (ch : Nat) (hch : ch < 6) : Met l y_Sg_digit w_Sg_digit ({ frames := 0, cells := 0, slots := 0, locals := 0 }) (va_Pc [.int mm, .int (nI ch)] (fun U => va_P (dC, dI) classes [] U.heap ∧ KN dC dI cI U)) (qr (nI (dgt mm ch))) 0 0 (fun _ => False) := by
  refine Met.ofW (cc := b_Sg_digit) (maxL := 4) (ret := (some .int)) (by decide) rfl ?_
  intro p e s m args below meth c s₁ B hml hv
  obtain ⟨rfl, hP, hKN⟩ := hv
  have hK := hKN.1
  have hx := B.exec
  have hb := B.bytes
  have hr := B.returns
  have hts := fun (w : Cond) (h : w ∈ gt) => atoms_spec (ws := w_Sg_digit) B.pre w (List.mem_cons_of_mem _ h)
  have hown : s.vm.findClass R_Sg = some m.cls := findClass_of_methodNamed B.named
  have hlocks := B.notSynchronized
  have hl := lv_entry ([.int mm, .int (nI ch)]) (n := 4) (Nat.le_of_ble_eq_true rfl)
  rw [lg_entry_eq]
  generalize (lg_sl ([.int mm, .int (nI ch)]) ++ List.replicate (4 - (lg_sl ([.int mm, .int (nI ch)])).length) Slot.unset).toArray = ls at hl ⊢
  have hl : lv_has ls 4 [(0, .int mm), (1, .int (nI ch))] := hl
  refine lv_iload_n hx hb d_Sg_digit_0 rfl (lv_at hl 1 rfl) ?_
  refine lv_iconst (v := (nI 4)) hx hb d_Sg_digit_1 (by decide) ?_
  refine nb_ge (tgt := 14) hx hb d_Sg_digit_2 (by decide) (by first | omega | exact Nat.lt_of_lt_of_le (stt_lt _ _) (by decide)) (by first | omega | exact Nat.lt_of_lt_of_le (stt_lt _ _) (by decide)) (fun h_1 => ?_) (fun h_1 => ?_)
  · refine lv_bipush (v := (nI 60)) hx hb d_Sg_digit_14 (by decide) ?_
    refine lv_istore_n (lv' := [(2, .int (nI 60)), (0, .int mm), (1, .int (nI ch))]) hx hb d_Sg_digit_16 rfl hl (by decide) rfl (fun ls hl => ?_)
    refine lv_iconst (v := (nI 0)) hx hb d_Sg_digit_17 (by decide) ?_
    refine lv_istore_n (lv' := [(3, .int (nI 0)), (2, .int (nI 60)), (0, .int mm), (1, .int (nI ch))]) hx hb d_Sg_digit_18 rfl hl (by decide) rfl (fun ls hl => ?_)
    refine lv_iload_n hx hb d_Sg_digit_19 rfl (lv_at hl 0 rfl) ?_
    refine lv_iconst (v := (nI 4)) hx hb d_Sg_digit_20 (by decide) ?_
    refine nb_ge (tgt := 41) hx hb d_Sg_digit_21 (by decide) (by decide) (by decide) (fun h_2 => ?_) (fun h_2 => ?_)
    · exact absurd h_2 (by decide)
    · refine lv_iload_n hx hb d_Sg_digit_24 rfl (lv_at hl 1 rfl) ?_
      refine lv_iload_n hx hb d_Sg_digit_25 rfl (lv_at hl 2 rfl) ?_
      refine lv_iconst (v := (nI 4)) hx hb d_Sg_digit_26 (by decide) ?_
      refine lv_iload_n hx hb d_Sg_digit_27 rfl (lv_at hl 0 rfl) ?_
      refine lv_imul hx hb d_Sg_digit_28 ?_
      refine tp (y := (nI 0)) (by decide) ?_
      refine lv_iushr (v := ush mm (nI 0)) hx hb d_Sg_digit_29 rfl ?_
      refine lv_bipush (v := (nI 15)) hx hb d_Sg_digit_30 (by decide) ?_
      refine lv_iand hx hb d_Sg_digit_32 ?_
      have g0 := nb4_lt mm 0
      refine tp (nb4_eq mm 0) ?_
      refine lv_isub hx hb d_Sg_digit_33 ?_
      refine tp (pk_sub (by omega)) ?_
      refine lv_istore_n (lv' := [(2, .int (nI (60 - (nb4 mm 0)))), (3, .int (nI 0)), (0, .int mm), (1, .int (nI ch))]) hx hb d_Sg_digit_34 rfl hl (by decide) rfl (fun ls hl => ?_)
      refine lv_iinc (k := 1) (v := (nI 1)) (lv' := [(3, .int (nI 1)), (2, .int (nI (60 - (nb4 mm 0)))), (0, .int mm), (1, .int (nI ch))]) hx hb d_Sg_digit_35 hl rfl (by decide) (by decide) rfl (fun ls hl => ?_)
      refine lv_goto (tgt := 19) hx hb d_Sg_digit_38 (by decide) ?_
      refine lv_iload_n hx hb d_Sg_digit_19 rfl (lv_at hl 0 rfl) ?_
      refine lv_iconst (v := (nI 4)) hx hb d_Sg_digit_20 (by decide) ?_
      refine nb_ge (tgt := 41) hx hb d_Sg_digit_21 (by decide) (by decide) (by decide) (fun h_3 => ?_) (fun h_3 => ?_)
      · exact absurd h_3 (by decide)
      · refine lv_iload_n hx hb d_Sg_digit_24 rfl (lv_at hl 1 rfl) ?_
        refine lv_iload_n hx hb d_Sg_digit_25 rfl (lv_at hl 2 rfl) ?_
        refine lv_iconst (v := (nI 4)) hx hb d_Sg_digit_26 (by decide) ?_
        refine lv_iload_n hx hb d_Sg_digit_27 rfl (lv_at hl 0 rfl) ?_
        refine lv_imul hx hb d_Sg_digit_28 ?_
        refine tp (y := (nI 4)) (by decide) ?_
        refine lv_iushr (v := ush mm (nI 4)) hx hb d_Sg_digit_29 rfl ?_
        refine lv_bipush (v := (nI 15)) hx hb d_Sg_digit_30 (by decide) ?_
        refine lv_iand hx hb d_Sg_digit_32 ?_
        have g1 := nb4_lt mm 1
        refine tp (nb4_eq mm 1) ?_
        refine lv_isub hx hb d_Sg_digit_33 ?_
        refine tp (pk_sub (by omega)) ?_
        refine lv_istore_n (lv' := [(2, .int (nI ((60 - (nb4 mm 0)) - (nb4 mm 1)))), (3, .int (nI 1)), (0, .int mm), (1, .int (nI ch))]) hx hb d_Sg_digit_34 rfl hl (by decide) rfl (fun ls hl => ?_)
        refine lv_iinc (k := 1) (v := (nI 2)) (lv' := [(3, .int (nI 2)), (2, .int (nI ((60 - (nb4 mm 0)) - (nb4 mm 1)))), (0, .int mm), (1, .int (nI ch))]) hx hb d_Sg_digit_35 hl rfl (by decide) (by decide) rfl (fun ls hl => ?_)
        refine lv_goto (tgt := 19) hx hb d_Sg_digit_38 (by decide) ?_
        refine lv_iload_n hx hb d_Sg_digit_19 rfl (lv_at hl 0 rfl) ?_
        refine lv_iconst (v := (nI 4)) hx hb d_Sg_digit_20 (by decide) ?_
        refine nb_ge (tgt := 41) hx hb d_Sg_digit_21 (by decide) (by decide) (by decide) (fun h_4 => ?_) (fun h_4 => ?_)
        · exact absurd h_4 (by decide)
        · refine lv_iload_n hx hb d_Sg_digit_24 rfl (lv_at hl 1 rfl) ?_
          refine lv_iload_n hx hb d_Sg_digit_25 rfl (lv_at hl 2 rfl) ?_
          refine lv_iconst (v := (nI 4)) hx hb d_Sg_digit_26 (by decide) ?_
          refine lv_iload_n hx hb d_Sg_digit_27 rfl (lv_at hl 0 rfl) ?_
          refine lv_imul hx hb d_Sg_digit_28 ?_
          refine tp (y := (nI 8)) (by decide) ?_
          refine lv_iushr (v := ush mm (nI 8)) hx hb d_Sg_digit_29 rfl ?_
          refine lv_bipush (v := (nI 15)) hx hb d_Sg_digit_30 (by decide) ?_
          refine lv_iand hx hb d_Sg_digit_32 ?_
          have g2 := nb4_lt mm 2
          refine tp (nb4_eq mm 2) ?_
          refine lv_isub hx hb d_Sg_digit_33 ?_
          refine tp (pk_sub (by omega)) ?_
          refine lv_istore_n (lv' := [(2, .int (nI (((60 - (nb4 mm 0)) - (nb4 mm 1)) - (nb4 mm 2)))), (3, .int (nI 2)), (0, .int mm), (1, .int (nI ch))]) hx hb d_Sg_digit_34 rfl hl (by decide) rfl (fun ls hl => ?_)
          refine lv_iinc (k := 1) (v := (nI 3)) (lv' := [(3, .int (nI 3)), (2, .int (nI (((60 - (nb4 mm 0)) - (nb4 mm 1)) - (nb4 mm 2)))), (0, .int mm), (1, .int (nI ch))]) hx hb d_Sg_digit_35 hl rfl (by decide) (by decide) rfl (fun ls hl => ?_)
          refine lv_goto (tgt := 19) hx hb d_Sg_digit_38 (by decide) ?_
          refine lv_iload_n hx hb d_Sg_digit_19 rfl (lv_at hl 0 rfl) ?_
          refine lv_iconst (v := (nI 4)) hx hb d_Sg_digit_20 (by decide) ?_
          refine nb_ge (tgt := 41) hx hb d_Sg_digit_21 (by decide) (by decide) (by decide) (fun h_5 => ?_) (fun h_5 => ?_)
          · exact absurd h_5 (by decide)
          · refine lv_iload_n hx hb d_Sg_digit_24 rfl (lv_at hl 1 rfl) ?_
            refine lv_iload_n hx hb d_Sg_digit_25 rfl (lv_at hl 2 rfl) ?_
            refine lv_iconst (v := (nI 4)) hx hb d_Sg_digit_26 (by decide) ?_
            refine lv_iload_n hx hb d_Sg_digit_27 rfl (lv_at hl 0 rfl) ?_
            refine lv_imul hx hb d_Sg_digit_28 ?_
            refine tp (y := (nI 12)) (by decide) ?_
            refine lv_iushr (v := ush mm (nI 12)) hx hb d_Sg_digit_29 rfl ?_
            refine lv_bipush (v := (nI 15)) hx hb d_Sg_digit_30 (by decide) ?_
            refine lv_iand hx hb d_Sg_digit_32 ?_
            have g3 := nb4_lt mm 3
            refine tp (nb4_eq mm 3) ?_
            refine lv_isub hx hb d_Sg_digit_33 ?_
            refine tp (pk_sub (by omega)) ?_
            refine lv_istore_n (lv' := [(2, .int (nI ((((60 - (nb4 mm 0)) - (nb4 mm 1)) - (nb4 mm 2)) - (nb4 mm 3)))), (3, .int (nI 3)), (0, .int mm), (1, .int (nI ch))]) hx hb d_Sg_digit_34 rfl hl (by decide) rfl (fun ls hl => ?_)
            refine lv_iinc (k := 1) (v := (nI 4)) (lv' := [(3, .int (nI 4)), (2, .int (nI ((((60 - (nb4 mm 0)) - (nb4 mm 1)) - (nb4 mm 2)) - (nb4 mm 3)))), (0, .int mm), (1, .int (nI ch))]) hx hb d_Sg_digit_35 hl rfl (by decide) (by decide) rfl (fun ls hl => ?_)
            refine lv_goto (tgt := 19) hx hb d_Sg_digit_38 (by decide) ?_
            refine lv_iload_n hx hb d_Sg_digit_19 rfl (lv_at hl 0 rfl) ?_
            refine lv_iconst (v := (nI 4)) hx hb d_Sg_digit_20 (by decide) ?_
            refine nb_ge (tgt := 41) hx hb d_Sg_digit_21 (by decide) (by decide) (by decide) (fun h_6 => ?_) (fun h_6 => ?_)
            · refine lv_iload_n hx hb d_Sg_digit_41 rfl (lv_at hl 3 rfl) ?_
              refine lv_iconst (v := (nI 4)) hx hb d_Sg_digit_42 (by decide) ?_
              refine nb_ne (tgt := 53) hx hb d_Sg_digit_43 (by decide) (by first | omega | exact Nat.lt_of_lt_of_le (stt_lt _ _) (by decide)) (by first | omega | exact Nat.lt_of_lt_of_le (stt_lt _ _) (by decide)) (fun h_7 => ?_) (fun h_7 => ?_)
              · refine lv_iload_n hx hb d_Sg_digit_53 rfl (lv_at hl 1 rfl) ?_
                refine lv_iconst (v := (nI 4)) hx hb d_Sg_digit_54 (by decide) ?_
                refine lv_iushr (v := ush (nI ((((60 - (nb4 mm 0)) - (nb4 mm 1)) - (nb4 mm 2)) - (nb4 mm 3))) (nI 4)) hx hb d_Sg_digit_55 rfl ?_
                refine tp (y := nI (((((60 - (nb4 mm 0)) - (nb4 mm 1)) - (nb4 mm 2)) - (nb4 mm 3)) / 2 ^ 4)) (pk_ushrN (by omega) (nI 4) 4 (by decide)) ?_
                exact W.iret (v := (nI (((((60 - (nb4 mm 0)) - (nb4 mm 1)) - (nb4 mm 2)) - (nb4 mm 3)) / 2 ^ 4))) hx hb hr (fun t ht hW => ⟨_, rfl, (by first | rfl | (simp only [dgt, rs4, if_pos h_1, if_neg h_7]; done) | (simp only [dgt, rs4, if_pos h_1, if_neg h_7]; rfl) | (simp [dgt, rs4, h_1, h_7]; done)), ht⟩) (fun q h => by cases h) d_Sg_digit_56
              · refine lv_iload_n hx hb d_Sg_digit_46 rfl (lv_at hl 1 rfl) ?_
                refine lv_bipush (v := (nI 15)) hx hb d_Sg_digit_47 (by decide) ?_
                refine lv_iand hx hb d_Sg_digit_49 ?_
                refine tp (pk_andN (by omega) 4 (by decide)) ?_
                refine lv_goto (tgt := 56) hx hb d_Sg_digit_50 (by decide) ?_
                exact W.iret (v := (nI (((((60 - (nb4 mm 0)) - (nb4 mm 1)) - (nb4 mm 2)) - (nb4 mm 3)) % 2 ^ 4))) hx hb hr (fun t ht hW => ⟨_, rfl, (by first | rfl | (simp only [dgt, rs4, if_pos h_1, if_pos h_7]; done) | (simp only [dgt, rs4, if_pos h_1, if_pos h_7]; rfl) | (simp [dgt, rs4, h_1, h_7]; done)), ht⟩) (fun q h => by cases h) d_Sg_digit_56
            · exact absurd h_6 (by decide)
  · refine lv_iload_n hx hb d_Sg_digit_5 rfl (lv_at hl 0 rfl) ?_
    refine lv_iconst (v := (nI 4)) hx hb d_Sg_digit_6 (by decide) ?_
    refine lv_iload_n hx hb d_Sg_digit_7 rfl (lv_at hl 1 rfl) ?_
    refine lv_imul hx hb d_Sg_digit_8 ?_
    refine tp (pk_mul _ _) ?_
    refine lv_iushr (v := ush mm (nI (4 * ch))) hx hb d_Sg_digit_9 rfl ?_
    refine lv_bipush (v := (nI 15)) hx hb d_Sg_digit_10 (by decide) ?_
    refine lv_iand hx hb d_Sg_digit_12 ?_
    refine tp (nb4_eq mm ch) ?_
    exact W.iret (v := (nI (nb4 mm ch))) hx hb hr (fun t ht hW => ⟨_, rfl, (by first | rfl | (simp only [dgt, rs4, if_neg h_1]; done) | (simp only [dgt, rs4, if_neg h_1]; rfl) | (simp [dgt, rs4, h_1]; done)), ht⟩) (fun q h => by cases h) d_Sg_digit_13
