set_option maxHeartbeats 4000000 in
set_option maxRecDepth 100000 in
theorem c_Tb_shift (l : Launch) (dC : Nat → ClassId) (dI : Nat → Nat → Nat) (cI : ClassId) (k : Nat)  : Met l y_Tb_shift w_Tb_shift ({ frames := 0, cells := 0, slots := 0, locals := 0 }) (va_Pc [.int (nI k)] (fun U => va_P (dC, dI) classes [] U.heap ∧ KN dC dI cI U)) (qr (nI (1 + 2 * k))) 0 0 (fun _ => False) := by
  refine Met.ofW (cc := b_Tb_shift) (maxL := 1) (ret := (some .int)) (by decide) rfl ?_
  intro p e s m args below meth c s₁ B hml hv
  obtain ⟨rfl, hP, hKN⟩ := hv
  have hK := hKN.1
  have hx := B.exec
  have hb := B.bytes
  have hr := B.returns
  have hts := fun (w : Cond) (h : w ∈ gt) => atoms_spec (ws := w_Tb_shift) B.pre w (List.mem_cons_of_mem _ h)
  have hown : s.vm.findClass R_Tb = some m.cls := findClass_of_methodNamed B.named
  have hlocks := B.notSynchronized
  have hl := lv_entry ([.int (nI k)]) (n := 1) (Nat.le_of_ble_eq_true rfl)
  rw [lg_entry_eq]
  generalize (lg_sl ([.int (nI k)]) ++ List.replicate (1 - (lg_sl ([.int (nI k)])).length) Slot.unset).toArray = ls at hl ⊢
  have hl : lv_has ls 1 [(0, .int (nI k))] := hl
  refine lv_iconst (v := (nI 1)) hx hb d_Tb_shift_0 (by decide) ?_
  refine lv_iconst (v := (nI 2)) hx hb d_Tb_shift_1 (by decide) ?_
  refine lv_iload_n hx hb d_Tb_shift_2 rfl (lv_at hl 0 rfl) ?_
  refine lv_imul hx hb d_Tb_shift_3 ?_
  refine tp (pk_mul _ _) ?_
  refine lv_iadd hx hb d_Tb_shift_4 ?_
  refine tp (nI_add _ _) ?_
  exact W.iret (v := (nI (1 + (2 * k)))) hx hb hr (fun t ht hW => ⟨_, rfl, (by first | rfl | (simp only []; done) | (simp only []; rfl) | (simp []; done)), ht⟩) (fun q h => by cases h) d_Tb_shift_5
set_option maxHeartbeats 4000000 in
set_option maxRecDepth 100000 in
theorem c_Tb_homeIn (l : Launch) (dC : Nat → ClassId) (dI : Nat → Nat → Nat) (cI : ClassId) (en : Int32)  : Met l y_Tb_homeIn w_Tb_homeIn ({ frames := 0, cells := 0, slots := 0, locals := 0 }) (va_Pc [.int en] (fun U => va_P (dC, dI) classes [] U.heap ∧ KN dC dI cI U)) (qr (nI (hom en))) 0 0 (fun _ => False) := by
  refine Met.ofW (cc := b_Tb_homeIn) (maxL := 1) (ret := (some .int)) (by decide) rfl ?_
  intro p e s m args below meth c s₁ B hml hv
  obtain ⟨rfl, hP, hKN⟩ := hv
  have hK := hKN.1
  have hx := B.exec
  have hb := B.bytes
  have hr := B.returns
  have hts := fun (w : Cond) (h : w ∈ gt) => atoms_spec (ws := w_Tb_homeIn) B.pre w (List.mem_cons_of_mem _ h)
  have hown : s.vm.findClass R_Tb = some m.cls := findClass_of_methodNamed B.named
  have hlocks := B.notSynchronized
  have hl := lv_entry ([.int en]) (n := 1) (Nat.le_of_ble_eq_true rfl)
  rw [lg_entry_eq]
  generalize (lg_sl ([.int en]) ++ List.replicate (1 - (lg_sl ([.int en])).length) Slot.unset).toArray = ls at hl ⊢
  have hl : lv_has ls 1 [(0, .int en)] := hl
  refine lv_iload_n hx hb d_Tb_homeIn_0 rfl (lv_at hl 0 rfl) ?_
  refine lv_iconst (v := (nI 1)) hx hb d_Tb_homeIn_1 (by decide) ?_
  refine lv_iand hx hb d_Tb_homeIn_2 ?_
  refine tp (pk_and _ 1 (by decide)) ?_
  exact W.iret (v := (nI (hom en))) hx hb hr (fun t ht hW => ⟨_, rfl, (by first | rfl | (simp only []; done) | (simp only []; rfl) | (simp []; done)), ht⟩) (fun q h => by cases h) d_Tb_homeIn_3
set_option maxHeartbeats 4000000 in
set_option maxRecDepth 100000 in
theorem c_Tb_stateIn (l : Launch) (dC : Nat → ClassId) (dI : Nat → Nat → Nat) (cI : ClassId) (en : Int32) (k : Nat)  : Met l y_Tb_stateIn w_Tb_stateIn ({ frames := 1, cells := 0, slots := 0, locals := 20 }) (va_Pc [.int en, .int (nI k)] (fun U => va_P (dC, dI) classes [] U.heap ∧ KN dC dI cI U)) (qr (nI (stt en k))) 0 0 (fun _ => False) := by
  refine Met.ofW (cc := b_Tb_stateIn) (maxL := 2) (ret := (some .int)) (by decide) rfl ?_
  intro p e s m args below meth c s₁ B hml hv
  obtain ⟨rfl, hP, hKN⟩ := hv
  have hK := hKN.1
  have hx := B.exec
  have hb := B.bytes
  have hr := B.returns
  have hts := fun (w : Cond) (h : w ∈ gt) => atoms_spec (ws := w_Tb_stateIn) B.pre w (List.mem_cons_of_mem _ h)
  have hown : s.vm.findClass R_Tb = some m.cls := findClass_of_methodNamed B.named
  have hlocks := B.notSynchronized
  have hl := lv_entry ([.int en, .int (nI k)]) (n := 2) (Nat.le_of_ble_eq_true rfl)
  rw [lg_entry_eq]
  generalize (lg_sl ([.int en, .int (nI k)]) ++ List.replicate (2 - (lg_sl ([.int en, .int (nI k)])).length) Slot.unset).toArray = ls at hl ⊢
  have hl : lv_has ls 2 [(0, .int en), (1, .int (nI k))] := hl
  refine lv_iload_n hx hb d_Tb_stateIn_0 rfl (lv_at hl 0 rfl) ?_
  refine lv_iload_n hx hb d_Tb_stateIn_1 rfl (lv_at hl 1 rfl) ?_
  refine pr_call (va_runS (As := [.int (nI k)]) (rest := [.int en]) ⟨hx, hb, hml, hown, hts⟩ (c_Tb_shift l dC dI cI (k := k) ) ⟨callB_of 1 hts (gd kw_267) rfl rfl rfl (hts _ kw_42) (hts _ kw_265) (by decide +kernel) ⟨Nat.le_of_ble_eq_true rfl, Nat.le_of_ble_eq_true rfl⟩, (hts _ kw_266)⟩ ⟨fun a U g mk q => by obtain ⟨q0, qP, qK⟩ := q; exact ⟨q0, qP, qK.call⟩, fun U hU hW => ⟨rfl, by rw [hU]; exact hP.sub [] rfl, hKN.warm hW⟩⟩ rfl rfl hl.1 rfl (lv_room (Nat.le_of_ble_eq_true rfl)) d_Tb_stateIn_2 ⟨Nat.zero_le _, Nat.zero_le _⟩) ?_
  refine lv_iushr (v := ush en (nI (1 + 2 * k))) hx hb d_Tb_stateIn_5 rfl ?_
  refine lv_iconst (v := (nI 3)) hx hb d_Tb_stateIn_6 (by decide) ?_
  refine lv_iand hx hb d_Tb_stateIn_7 ?_
  refine tp (pk_and _ 2 (by decide)) ?_
  exact W.iret (v := (nI (stt en k))) hx hb hr (fun t ht hW => ⟨_, rfl, (by first | rfl | (simp only []; done) | (simp only []; rfl) | (simp []; done)), ht⟩) (fun q h => by cases h) d_Tb_stateIn_8
set_option maxHeartbeats 4000000 in
set_option maxRecDepth 100000 in
theorem c_Tb_withHome (l : Launch) (dC : Nat → ClassId) (dI : Nat → Nat → Nat) (cI : ClassId) (en : Int32) (k : Nat)  : Met l y_Tb_withHome w_Tb_withHome ({ frames := 0, cells := 0, slots := 0, locals := 0 }) (va_Pc [.int en, .int (nI k)] (fun U => va_P (dC, dI) classes [] U.heap ∧ KN dC dI cI U)) (qr (who en k)) 0 0 (fun _ => False) := by
  refine Met.ofW (cc := b_Tb_withHome) (maxL := 2) (ret := (some .int)) (by decide) rfl ?_
  intro p e s m args below meth c s₁ B hml hv
  obtain ⟨rfl, hP, hKN⟩ := hv
  have hK := hKN.1
  have hx := B.exec
  have hb := B.bytes
  have hr := B.returns
  have hts := fun (w : Cond) (h : w ∈ gt) => atoms_spec (ws := w_Tb_withHome) B.pre w (List.mem_cons_of_mem _ h)
  have hown : s.vm.findClass R_Tb = some m.cls := findClass_of_methodNamed B.named
  have hlocks := B.notSynchronized
  have hl := lv_entry ([.int en, .int (nI k)]) (n := 2) (Nat.le_of_ble_eq_true rfl)
  rw [lg_entry_eq]
  generalize (lg_sl ([.int en, .int (nI k)]) ++ List.replicate (2 - (lg_sl ([.int en, .int (nI k)])).length) Slot.unset).toArray = ls at hl ⊢
  have hl : lv_has ls 2 [(0, .int en), (1, .int (nI k))] := hl
  refine lv_iload_n hx hb d_Tb_withHome_0 rfl (lv_at hl 0 rfl) ?_
  refine lv_bipush (v := (-2)) hx hb d_Tb_withHome_1 (by decide) ?_
  refine lv_iand hx hb d_Tb_withHome_3 ?_
  refine lv_iload_n hx hb d_Tb_withHome_4 rfl (lv_at hl 1 rfl) ?_
  refine lv_ior hx hb d_Tb_withHome_5 ?_
  exact W.iret (v := ((en &&& (-2)) ||| (nI k))) hx hb hr (fun t ht hW => ⟨_, rfl, (by first | rfl | (simp only []; done) | (simp only []; rfl) | (simp []; done)), ht⟩) (fun q h => by cases h) d_Tb_withHome_6
set_option maxHeartbeats 4000000 in
set_option maxRecDepth 100000 in
theorem c_Tb_withState (l : Launch) (dC : Nat → ClassId) (dI : Nat → Nat → Nat) (cI : ClassId) (en : Int32) (k : Nat) (v : Nat)  : Met l y_Tb_withState w_Tb_withState ({ frames := 1, cells := 0, slots := 0, locals := 20 }) (va_Pc [.int en, .int (nI k), .int (nI v)] (fun U => va_P (dC, dI) classes [] U.heap ∧ KN dC dI cI U)) (qr (wst en k v)) 0 0 (fun _ => False) := by
  refine Met.ofW (cc := b_Tb_withState) (maxL := 3) (ret := (some .int)) (by decide) rfl ?_
  intro p e s m args below meth c s₁ B hml hv
  obtain ⟨rfl, hP, hKN⟩ := hv
  have hK := hKN.1
  have hx := B.exec
  have hb := B.bytes
  have hr := B.returns
  have hts := fun (w : Cond) (h : w ∈ gt) => atoms_spec (ws := w_Tb_withState) B.pre w (List.mem_cons_of_mem _ h)
  have hown : s.vm.findClass R_Tb = some m.cls := findClass_of_methodNamed B.named
  have hlocks := B.notSynchronized
  have hl := lv_entry ([.int en, .int (nI k), .int (nI v)]) (n := 3) (Nat.le_of_ble_eq_true rfl)
  rw [lg_entry_eq]
  generalize (lg_sl ([.int en, .int (nI k), .int (nI v)]) ++ List.replicate (3 - (lg_sl ([.int en, .int (nI k), .int (nI v)])).length) Slot.unset).toArray = ls at hl ⊢
  have hl : lv_has ls 3 [(0, .int en), (1, .int (nI k)), (2, .int (nI v))] := hl
  refine lv_iload_n hx hb d_Tb_withState_0 rfl (lv_at hl 0 rfl) ?_
  refine lv_iconst (v := (nI 3)) hx hb d_Tb_withState_1 (by decide) ?_
  refine lv_iload_n hx hb d_Tb_withState_2 rfl (lv_at hl 1 rfl) ?_
  refine pr_call (va_runS (As := [.int (nI k)]) (rest := [.int (nI 3), .int en]) ⟨hx, hb, hml, hown, hts⟩ (c_Tb_shift l dC dI cI (k := k) ) ⟨callB_of 1 hts (gd kw_267) rfl rfl rfl (hts _ kw_42) (hts _ kw_265) (by decide +kernel) ⟨Nat.le_of_ble_eq_true rfl, Nat.le_of_ble_eq_true rfl⟩, (hts _ kw_266)⟩ ⟨fun a U g mk q => by obtain ⟨q0, qP, qK⟩ := q; exact ⟨q0, qP, qK.call⟩, fun U hU hW => ⟨rfl, by rw [hU]; exact hP.sub [] rfl, hKN.warm hW⟩⟩ rfl rfl hl.1 rfl (lv_room (Nat.le_of_ble_eq_true rfl)) d_Tb_withState_3 ⟨Nat.zero_le _, Nat.zero_le _⟩) ?_
  refine lv_ishl hx hb d_Tb_withState_6 ?_
  refine lv_iconst (v := (-1)) hx hb d_Tb_withState_7 (by decide) ?_
  refine lv_ixor hx hb d_Tb_withState_8 ?_
  refine lv_iand hx hb d_Tb_withState_9 ?_
  refine lv_iload_n hx hb d_Tb_withState_10 rfl (lv_at hl 2 rfl) ?_
  refine lv_iload_n hx hb d_Tb_withState_11 rfl (lv_at hl 1 rfl) ?_
  refine pr_call (va_runS (As := [.int (nI k)]) (rest := [.int (nI v), .int (en &&& (((nI 3) <<< ((nI (1 + 2 * k)) &&& 31)) ^^^ (-1)))]) ⟨hx, hb, hml, hown, hts⟩ (c_Tb_shift l dC dI cI (k := k) ) ⟨callB_of 1 hts (gd kw_267) rfl rfl rfl (hts _ kw_42) (hts _ kw_265) (by decide +kernel) ⟨Nat.le_of_ble_eq_true rfl, Nat.le_of_ble_eq_true rfl⟩, (hts _ kw_266)⟩ ⟨fun a U g mk q => by obtain ⟨q0, qP, qK⟩ := q; exact ⟨q0, qP, qK.call⟩, fun U hU hW => ⟨rfl, by rw [hU]; exact hP.sub [] rfl, hKN.warm hW⟩⟩ rfl rfl hl.1 rfl (lv_room (Nat.le_of_ble_eq_true rfl)) d_Tb_withState_12 ⟨Nat.zero_le _, Nat.zero_le _⟩) ?_
  refine lv_ishl hx hb d_Tb_withState_15 ?_
  refine lv_ior hx hb d_Tb_withState_16 ?_
  exact W.iret (v := ((en &&& (((nI 3) <<< ((nI (1 + 2 * k)) &&& 31)) ^^^ (-1))) ||| ((nI v) <<< ((nI (1 + 2 * k)) &&& 31)))) hx hb hr (fun t ht hW => ⟨_, rfl, (by first | rfl | (simp only []; done) | (simp only []; rfl) | (simp []; done)), ht⟩) (fun q h => by cases h) d_Tb_withState_17
set_option maxHeartbeats 4000000 in
set_option maxRecDepth 100000 in
theorem c_Tb_trialIn (l : Launch) (dC : Nat → ClassId) (dI : Nat → Nat → Nat) (cI : ClassId) (en : Int32)  : Met l y_Tb_trialIn w_Tb_trialIn ({ frames := 2, cells := 0, slots := 0, locals := 41 }) (va_Pc [.int en] (fun U => va_P (dC, dI) classes [] U.heap ∧ KN dC dI cI U)) (qr (trl en)) 0 0 (fun _ => False) := by
  refine Met.ofW (cc := b_Tb_trialIn) (maxL := 2) (ret := (some .int)) (by decide) rfl ?_
  intro p e s m args below meth c s₁ B hml hv
  obtain ⟨rfl, hP, hKN⟩ := hv
  have hK := hKN.1
  have hx := B.exec
  have hb := B.bytes
  have hr := B.returns
  have hts := fun (w : Cond) (h : w ∈ gt) => atoms_spec (ws := w_Tb_trialIn) B.pre w (List.mem_cons_of_mem _ h)
  have hown : s.vm.findClass R_Tb = some m.cls := findClass_of_methodNamed B.named
  have hlocks := B.notSynchronized
  have hl := lv_entry ([.int en]) (n := 2) (Nat.le_of_ble_eq_true rfl)
  rw [lg_entry_eq]
  generalize (lg_sl ([.int en]) ++ List.replicate (2 - (lg_sl ([.int en])).length) Slot.unset).toArray = ls at hl ⊢
  have hl : lv_has ls 2 [(0, .int en)] := hl
  have ghom := hom_lt en
  have gs1 := stt_lt en (1 - hom en)
  have gs0 := stt_lt en (hom en)
  refine lv_iload_n hx hb d_Tb_trialIn_0 rfl (lv_at hl 0 rfl) ?_
  refine pr_call (va_runS (As := [.int en]) (rest := []) ⟨hx, hb, hml, hown, hts⟩ (c_Tb_homeIn l dC dI cI (en := en) ) ⟨callB_of 1 hts (gd kw_257) rfl rfl rfl (hts _ kw_42) (hts _ kw_309) (by decide +kernel) ⟨Nat.le_of_ble_eq_true rfl, Nat.le_of_ble_eq_true rfl⟩, (hts _ kw_256)⟩ ⟨fun a U g mk q => by obtain ⟨q0, qP, qK⟩ := q; exact ⟨q0, qP, qK.call⟩, fun U hU hW => ⟨rfl, by rw [hU]; exact hP.sub [] rfl, hKN.warm hW⟩⟩ rfl rfl hl.1 rfl (lv_room (Nat.le_of_ble_eq_true rfl)) d_Tb_trialIn_1 ⟨Nat.zero_le _, Nat.zero_le _⟩) ?_
  refine lv_istore_n (lv' := [(1, .int (nI (hom en))), (0, .int en)]) hx hb d_Tb_trialIn_4 rfl hl (by decide) rfl (fun ls hl => ?_)
  refine lv_iload_n hx hb d_Tb_trialIn_5 rfl (lv_at hl 1 rfl) ?_
  refine lv_iconst (v := (nI 1)) hx hb d_Tb_trialIn_6 (by decide) ?_
  refine lv_iload_n hx hb d_Tb_trialIn_7 rfl (lv_at hl 0 rfl) ?_
  refine lv_isub hx hb d_Tb_trialIn_8 ?_
  refine tp (pk_sub (by omega)) ?_
  refine pr_call (va_runS (As := [.int en, .int (nI (1 - (hom en)))]) (rest := []) ⟨hx, hb, hml, hown, hts⟩ (c_Tb_stateIn l dC dI cI (en := en) (k := 1 - (hom en)) ) ⟨callB_of 2 hts (gd kw_312) rfl rfl rfl (hts _ kw_42) (hts _ kw_310) (by decide +kernel) ⟨Nat.le_of_ble_eq_true rfl, Nat.le_of_ble_eq_true rfl⟩, (hts _ kw_311)⟩ ⟨fun a U g mk q => by obtain ⟨q0, qP, qK⟩ := q; exact ⟨q0, qP, qK.call⟩, fun U hU hW => ⟨rfl, by rw [hU]; exact hP.sub [] rfl, hKN.warm hW⟩⟩ rfl rfl hl.1 rfl (lv_room (Nat.le_of_ble_eq_true rfl)) d_Tb_trialIn_9 ⟨Nat.zero_le _, Nat.zero_le _⟩) ?_
  refine lv_iconst (v := (nI 2)) hx hb d_Tb_trialIn_12 (by decide) ?_
  refine nb_ne (tgt := 20) hx hb d_Tb_trialIn_13 (by decide) (by first | omega | exact Nat.lt_of_lt_of_le (stt_lt _ _) (by decide)) (by first | omega | exact Nat.lt_of_lt_of_le (stt_lt _ _) (by decide)) (fun h_1 => ?_) (fun h_1 => ?_)
  · refine lv_iload_n hx hb d_Tb_trialIn_20 rfl (lv_at hl 1 rfl) ?_
    refine lv_iload_n hx hb d_Tb_trialIn_21 rfl (lv_at hl 0 rfl) ?_
    refine pr_call (va_runS (As := [.int en, .int (nI (hom en))]) (rest := []) ⟨hx, hb, hml, hown, hts⟩ (c_Tb_stateIn l dC dI cI (en := en) (k := hom en) ) ⟨callB_of 2 hts (gd kw_312) rfl rfl rfl (hts _ kw_42) (hts _ kw_310) (by decide +kernel) ⟨Nat.le_of_ble_eq_true rfl, Nat.le_of_ble_eq_true rfl⟩, (hts _ kw_311)⟩ ⟨fun a U g mk q => by obtain ⟨q0, qP, qK⟩ := q; exact ⟨q0, qP, qK.call⟩, fun U hU hW => ⟨rfl, by rw [hU]; exact hP.sub [] rfl, hKN.warm hW⟩⟩ rfl rfl hl.1 rfl (lv_room (Nat.le_of_ble_eq_true rfl)) d_Tb_trialIn_22 ⟨Nat.zero_le _, Nat.zero_le _⟩) ?_
    refine lv_iconst (v := (nI 2)) hx hb d_Tb_trialIn_25 (by decide) ?_
    refine nb_ne (tgt := 33) hx hb d_Tb_trialIn_26 (by decide) (by first | omega | exact Nat.lt_of_lt_of_le (stt_lt _ _) (by decide)) (by first | omega | exact Nat.lt_of_lt_of_le (stt_lt _ _) (by decide)) (fun h_2 => ?_) (fun h_2 => ?_)
    · refine lv_iconst (v := (-1)) hx hb d_Tb_trialIn_33 (by decide) ?_
      exact W.iret (v := (-1)) hx hb hr (fun t ht hW => ⟨_, rfl, (by simp [trl, h_1, h_2]), ht⟩) (fun q h => by cases h) d_Tb_trialIn_34
    · refine lv_iload_n hx hb d_Tb_trialIn_29 rfl (lv_at hl 0 rfl) ?_
      refine lv_goto (tgt := 34) hx hb d_Tb_trialIn_30 (by decide) ?_
      exact W.iret (v := (nI (hom en))) hx hb hr (fun t ht hW => ⟨_, rfl, (by simp [trl, h_1, h_2]), ht⟩) (fun q h => by cases h) d_Tb_trialIn_34
  · refine lv_iconst (v := (nI 1)) hx hb d_Tb_trialIn_16 (by decide) ?_
    refine lv_iload_n hx hb d_Tb_trialIn_17 rfl (lv_at hl 0 rfl) ?_
    refine lv_isub hx hb d_Tb_trialIn_18 ?_
    refine tp (pk_sub (by omega)) ?_
    exact W.iret (v := (nI (1 - (hom en)))) hx hb hr (fun t ht hW => ⟨_, rfl, (by simp [trl, h_1]), ht⟩) (fun q h => by cases h) d_Tb_trialIn_19
set_option maxHeartbeats 4000000 in
set_option maxRecDepth 100000 in
theorem c_St_versionIn (l : Launch) (dC : Nat → ClassId) (dI : Nat → Nat → Nat) (cI : ClassId) (hs : Nat) (k : Nat) (hw : Nat) (bl : Nat) (dn : Int32) (lf : Int32) (M : Nat → Int32) (hk : k < 2) : Met l y_St_versionIn w_St_versionIn ({ frames := 1, cells := 0, slots := 0, locals := 20 }) (va_Pc [.ref hs, .int (nI k)] (fun U => va_P (dC, dI) classes [(hs, .inr (2, [.ref hw, .int (nI bl), .int dn, .int lf])), (hw, .inl (cI, 40, .inl M))] U.heap ∧ KN dC dI cI U)) (qr (M (k * 17))) 0 0 (fun _ => False) := by
  refine Met.ofW (cc := b_St_versionIn) (maxL := 2) (ret := (some .int)) (by decide) rfl ?_
  intro p e s m args below meth c s₁ B hml hv
  obtain ⟨rfl, hP, hKN⟩ := hv
  have hK := hKN.1
  have hx := B.exec
  have hb := B.bytes
  have hr := B.returns
  have hts := fun (w : Cond) (h : w ∈ gt) => atoms_spec (ws := w_St_versionIn) B.pre w (List.mem_cons_of_mem _ h)
  have hown : s.vm.findClass R_St = some m.cls := findClass_of_methodNamed B.named
  have hlocks := B.notSynchronized
  have hl := lv_entry ([.ref hs, .int (nI k)]) (n := 2) (Nat.le_of_ble_eq_true rfl)
  rw [lg_entry_eq]
  generalize (lg_sl ([.ref hs, .int (nI k)]) ++ List.replicate (2 - (lg_sl ([.ref hs, .int (nI k)])).length) Slot.unset).toArray = ls at hl ⊢
  have hl : lv_has ls 2 [(0, .ref hs), (1, .int (nI k))] := hl
  refine lv_aload_n hx hb d_St_versionIn_0 rfl (lv_at hl 0 rfl) ?_
  refine va_get (D := (dC, dI)) (ci := 2) (v := .ref hw) (C := R_St) (T := F_St) (N := 4) hx hb hts in_St hown hK hP 0 rfl rfl 0 (by decide) (hts _ kw_125) (fun _ h9 => h9) rfl d_St_versionIn_1 ?_
  refine lv_iload_n hx hb d_St_versionIn_4 rfl (lv_at hl 1 rfl) ?_
  refine pr_call (va_runS (As := [.int (nI k)]) (rest := [.ref hw]) ⟨hx, hb, hml, hown, hts⟩ (c_St_slotPlace l dC dI cI (k := k) ) ⟨callB_of 1 hts (gd kw_289) rfl rfl rfl (hts _ kw_39) (hts _ kw_287) (by decide +kernel) ⟨Nat.le_of_ble_eq_true rfl, Nat.le_of_ble_eq_true rfl⟩, (hts _ kw_288)⟩ ⟨fun a U g mk q => by obtain ⟨q0, qP, qK⟩ := q; exact ⟨q0, qP, qK.call⟩, fun U hU hW => ⟨rfl, by rw [hU]; exact hP.sub [] rfl, hKN.warm hW⟩⟩ rfl rfl hl.1 rfl (lv_room (Nat.le_of_ble_eq_true rfl)) d_St_versionIn_5 ⟨Nat.zero_le _, Nat.zero_le _⟩) ?_
  refine ar_ld (k := k * 17) hx hb hK hP 1 0 rfl rfl (by omega) (by first | decide | omega) d_St_versionIn_8 ?_
  exact W.iret (v := (M (k * 17))) hx hb hr (fun t ht hW => ⟨_, rfl, (by first | rfl | (simp only []; done) | (simp only []; rfl) | (simp []; done)), ht⟩) (fun q h => by cases h) d_St_versionIn_9
set_option maxHeartbeats 4000000 in
set_option maxRecDepth 100000 in
theorem c_St_isGood (l : Launch) (dC : Nat → ClassId) (dI : Nat → Nat → Nat) (cI : ClassId) (hs : Nat) (k : Nat) (hw : Nat) (bl : Nat) (dn : Int32) (lf : Int32) (M : Nat → Int32) (hk : k < 2) : Met l y_St_isGood w_St_isGood ({ frames := 2, cells := 0, slots := 0, locals := 43 }) (va_Pc [.ref hs, .int (nI k)] (fun U => va_P (dC, dI) classes [(hs, .inr (2, [.ref hw, .int (nI bl), .int dn, .int lf])), (hw, .inl (cI, 40, .inl M))] U.heap ∧ KN dC dI cI U)) (qr (bI (good M k))) 0 0 (fun _ => False) := by
  refine Met.ofW (cc := b_St_isGood) (maxL := 3) (ret := (some .boolean)) (by decide) rfl ?_
  intro p e s m args below meth c s₁ B hml hv
  obtain ⟨rfl, hP, hKN⟩ := hv
  have hK := hKN.1
  have hx := B.exec
  have hb := B.bytes
  have hr := B.returns
  have hts := fun (w : Cond) (h : w ∈ gt) => atoms_spec (ws := w_St_isGood) B.pre w (List.mem_cons_of_mem _ h)
  have hown : s.vm.findClass R_St = some m.cls := findClass_of_methodNamed B.named
  have hlocks := B.notSynchronized
  have hl := lv_entry ([.ref hs, .int (nI k)]) (n := 3) (Nat.le_of_ble_eq_true rfl)
  rw [lg_entry_eq]
  generalize (lg_sl ([.ref hs, .int (nI k)]) ++ List.replicate (3 - (lg_sl ([.ref hs, .int (nI k)])).length) Slot.unset).toArray = ls at hl ⊢
  have hl : lv_has ls 3 [(0, .ref hs), (1, .int (nI k))] := hl
  refine lv_iload_n hx hb d_St_isGood_0 rfl (lv_at hl 1 rfl) ?_
  refine pr_call (va_runS (As := [.int (nI k)]) (rest := []) ⟨hx, hb, hml, hown, hts⟩ (c_St_recordPlace l dC dI cI (k := k) ) ⟨callB_of 1 hts (gd kw_254) rfl rfl rfl (hts _ kw_39) (hts _ kw_252) (by decide +kernel) ⟨Nat.le_of_ble_eq_true rfl, Nat.le_of_ble_eq_true rfl⟩, (hts _ kw_253)⟩ ⟨fun a U g mk q => by obtain ⟨q0, qP, qK⟩ := q; exact ⟨q0, qP, qK.call⟩, fun U hU hW => ⟨rfl, by rw [hU]; exact hP.sub [] rfl, hKN.warm hW⟩⟩ rfl rfl hl.1 rfl (lv_room (Nat.le_of_ble_eq_true rfl)) d_St_isGood_1 ⟨Nat.zero_le _, Nat.zero_le _⟩) ?_
  refine lv_istore_n (lv' := [(2, .int (nI (34 + 3 * k))), (0, .ref hs), (1, .int (nI k))]) hx hb d_St_isGood_4 rfl hl (by decide) rfl (fun ls hl => ?_)
  refine lv_aload_n hx hb d_St_isGood_5 rfl (lv_at hl 1 rfl) ?_
  refine va_get (D := (dC, dI)) (ci := 2) (v := .ref hw) (C := R_St) (T := F_St) (N := 4) hx hb hts in_St hown hK hP 0 rfl rfl 0 (by decide) (hts _ kw_125) (fun _ h9 => h9) rfl d_St_isGood_6 ?_
  refine lv_iload_n hx hb d_St_isGood_9 rfl (lv_at hl 0 rfl) ?_
  refine lv_iconst (v := (nI 2)) hx hb d_St_isGood_10 (by decide) ?_
  refine lv_iadd hx hb d_St_isGood_11 ?_
  refine tp (nI_add _ _) ?_
  refine ar_ld (k := (34 + 3 * k) + 2) hx hb hK hP 1 0 rfl rfl (by omega) (by first | decide | omega) d_St_isGood_12 ?_
  refine lv_aload_n hx hb d_St_isGood_13 rfl (lv_at hl 1 rfl) ?_
  refine va_get (D := (dC, dI)) (ci := 2) (v := .ref hw) (C := R_St) (T := F_St) (N := 4) hx hb hts in_St hown hK hP 0 rfl rfl 0 (by decide) (hts _ kw_125) (fun _ h9 => h9) rfl d_St_isGood_14 ?_
  refine lv_iload_n hx hb d_St_isGood_17 rfl (lv_at hl 0 rfl) ?_
  refine ar_ld (k := 34 + 3 * k) hx hb hK hP 1 0 rfl rfl (by omega) (by first | decide | omega) d_St_isGood_18 ?_
  refine lv_aload_n hx hb d_St_isGood_19 rfl (lv_at hl 1 rfl) ?_
  refine va_get (D := (dC, dI)) (ci := 2) (v := .ref hw) (C := R_St) (T := F_St) (N := 4) hx hb hts in_St hown hK hP 0 rfl rfl 0 (by decide) (hts _ kw_125) (fun _ h9 => h9) rfl d_St_isGood_20 ?_
  refine lv_iload_n hx hb d_St_isGood_23 rfl (lv_at hl 0 rfl) ?_
  refine lv_iconst (v := (nI 1)) hx hb d_St_isGood_24 (by decide) ?_
  refine lv_iadd hx hb d_St_isGood_25 ?_
  refine tp (nI_add _ _) ?_
  refine ar_ld (k := (34 + 3 * k) + 1) hx hb hK hP 1 0 rfl rfl (by omega) (by first | decide | omega) d_St_isGood_26 ?_
  refine pr_call (va_runS (As := [.int (M (34 + 3 * k)), .int (M ((34 + 3 * k) + 1))]) (rest := [.int (M ((34 + 3 * k) + 2))]) ⟨hx, hb, hml, hown, hts⟩ (c_St_check l dC dI cI (a := M (34 + 3 * k)) (b := M ((34 + 3 * k) + 1)) ) ⟨callB_of 2 hts (gd kw_123) rfl rfl rfl (hts _ kw_39) (hts _ kw_121) (by decide +kernel) ⟨Nat.le_of_ble_eq_true rfl, Nat.le_of_ble_eq_true rfl⟩, (hts _ kw_122)⟩ ⟨fun a U g mk q => by obtain ⟨q0, qP, qK⟩ := q; exact ⟨q0, qP, qK.call⟩, fun U hU hW => ⟨rfl, by rw [hU]; exact hP.sub [] rfl, hKN.warm hW⟩⟩ rfl rfl hl.1 rfl (lv_room (Nat.le_of_ble_eq_true rfl)) d_St_isGood_27 ⟨Nat.zero_le _, Nat.zero_le _⟩) ?_
  refine lv_icmp_ne (tgt := 37) hx hb d_St_isGood_30 (by decide) (fun h_1 => ?_) (fun h_1 => ?_)
  · refine lv_iconst (v := (nI 0)) hx hb d_St_isGood_37 (by decide) ?_
    exact W.zret (v := (bI false)) hx hb hr (bI_narrow _) (fun t ht hW => ⟨_, rfl, (by simp [good, h_1]), ht⟩) (fun q h => by cases h) d_St_isGood_38
  · refine lv_iconst (v := (nI 1)) hx hb d_St_isGood_33 (by decide) ?_
    refine lv_goto (tgt := 38) hx hb d_St_isGood_34 (by decide) ?_
    exact W.zret (v := (bI true)) hx hb hr (bI_narrow _) (fun t ht hW => ⟨_, rfl, (by simp [good, h_1]), ht⟩) (fun q h => by cases h) d_St_isGood_38
set_option maxHeartbeats 4000000 in
set_option maxRecDepth 100000 in
theorem c_St_currentRecord (l : Launch) (dC : Nat → ClassId) (dI : Nat → Nat → Nat) (cI : ClassId) (hs : Nat) (hw : Nat) (bl : Nat) (dn : Int32) (lf : Int32) (M : Nat → Int32)  : Met l y_St_currentRecord w_St_currentRecord ({ frames := 3, cells := 0, slots := 0, locals := 65 }) (va_Pc [.ref hs] (fun U => va_P (dC, dI) classes [(hs, .inr (2, [.ref hw, .int (nI bl), .int dn, .int lf])), (hw, .inl (cI, 40, .inl M))] U.heap ∧ KN dC dI cI U)) (qr (cur M)) 0 0 (fun _ => False) := by
  refine Met.ofW (cc := b_St_currentRecord) (maxL := 3) (ret := (some .int)) (by decide) rfl ?_
  intro p e s m args below meth c s₁ B hml hv
  obtain ⟨rfl, hP, hKN⟩ := hv
  have hK := hKN.1
  have hx := B.exec
  have hb := B.bytes
  have hr := B.returns
  have hts := fun (w : Cond) (h : w ∈ gt) => atoms_spec (ws := w_St_currentRecord) B.pre w (List.mem_cons_of_mem _ h)
  have hown : s.vm.findClass R_St = some m.cls := findClass_of_methodNamed B.named
  have hlocks := B.notSynchronized
  have hl := lv_entry ([.ref hs]) (n := 3) (Nat.le_of_ble_eq_true rfl)
  rw [lg_entry_eq]
  generalize (lg_sl ([.ref hs]) ++ List.replicate (3 - (lg_sl ([.ref hs])).length) Slot.unset).toArray = ls at hl ⊢
  have hl : lv_has ls 3 [(0, .ref hs)] := hl
  refine lv_aload_n hx hb d_St_currentRecord_0 rfl (lv_at hl 0 rfl) ?_
  refine lv_iconst (v := (nI 0)) hx hb d_St_currentRecord_1 (by decide) ?_
  refine pr_call (va_runV (As := [.int (nI 0)]) (rest := []) ⟨hx, hb, hml, hown, hts⟩ (c_St_isGood l dC dI cI (hs := hs) (k := 0) (hw := hw) (bl := bl) (dn := dn) (lf := lf) (M := M) (hk := (by omega))) ⟨callB_of 1 hts (gd kw_251) rfl rfl rfl (hts _ kw_39) (hts _ kw_248) (by decide +kernel) ⟨Nat.le_of_ble_eq_true rfl, Nat.le_of_ble_eq_true rfl⟩, (hts _ kw_250), (hts _ kw_5)⟩ ⟨fun a U g mk q => by obtain ⟨q0, qP, qK⟩ := q; exact ⟨q0, qP, qK.call⟩, va_recv hK hP (ci := 2) rfl (q0 := 0) rfl, fun U hU hW => ⟨rfl, by rw [hU]; exact hP.sub [0, 1] rfl, hKN.warm hW⟩⟩ rfl rfl hl.1 rfl (lv_room (Nat.le_of_ble_eq_true rfl)) d_St_currentRecord_2 ⟨Nat.zero_le _, Nat.zero_le _⟩) ?_
  refine lv_istore_n (lv' := [(1, .int (bI (good M 0))), (0, .ref hs)]) hx hb d_St_currentRecord_5 rfl hl (by decide) rfl (fun ls hl => ?_)
  refine lv_aload_n hx hb d_St_currentRecord_6 rfl (lv_at hl 1 rfl) ?_
  refine lv_iconst (v := (nI 1)) hx hb d_St_currentRecord_7 (by decide) ?_
  refine pr_call (va_runV (As := [.int (nI 1)]) (rest := []) ⟨hx, hb, hml, hown, hts⟩ (c_St_isGood l dC dI cI (hs := hs) (k := 1) (hw := hw) (bl := bl) (dn := dn) (lf := lf) (M := M) (hk := (by omega))) ⟨callB_of 1 hts (gd kw_251) rfl rfl rfl (hts _ kw_39) (hts _ kw_248) (by decide +kernel) ⟨Nat.le_of_ble_eq_true rfl, Nat.le_of_ble_eq_true rfl⟩, (hts _ kw_250), (hts _ kw_5)⟩ ⟨fun a U g mk q => by obtain ⟨q0, qP, qK⟩ := q; exact ⟨q0, qP, qK.call⟩, va_recv hK hP (ci := 2) rfl (q0 := 0) rfl, fun U hU hW => ⟨rfl, by rw [hU]; exact hP.sub [0, 1] rfl, hKN.warm hW⟩⟩ rfl rfl hl.1 rfl (lv_room (Nat.le_of_ble_eq_true rfl)) d_St_currentRecord_8 ⟨Nat.zero_le _, Nat.zero_le _⟩) ?_
  refine lv_istore_n (lv' := [(2, .int (bI (good M 1))), (1, .int (bI (good M 0))), (0, .ref hs)]) hx hb d_St_currentRecord_11 rfl hl (by decide) rfl (fun ls hl => ?_)
  refine lv_iload_n hx hb d_St_currentRecord_12 rfl (lv_at hl 1 rfl) ?_
  refine bz_eq (tgt := 47) hx hb d_St_currentRecord_13 (by decide) (fun h_1 => ?_) (fun h_1 => ?_)
  · refine lv_iload_n hx hb d_St_currentRecord_47 rfl (lv_at hl 1 rfl) ?_
    refine bz_eq (tgt := 53) hx hb d_St_currentRecord_48 (by decide) (fun h_2 => ?_) (fun h_2 => ?_)
    · refine lv_iload_n hx hb d_St_currentRecord_53 rfl (lv_at hl 0 rfl) ?_
      refine bz_eq (tgt := 61) hx hb d_St_currentRecord_54 (by decide) (fun h_3 => ?_) (fun h_3 => ?_)
      · refine lv_iconst (v := (-1)) hx hb d_St_currentRecord_61 (by decide) ?_
        exact W.iret (v := (-1)) hx hb hr (fun t ht hW => ⟨_, rfl, (by simp [cur, h_1, h_2, h_3]), ht⟩) (fun q h => by cases h) d_St_currentRecord_62
      · refine lv_iconst (v := (nI 1)) hx hb d_St_currentRecord_57 (by decide) ?_
        refine lv_goto (tgt := 62) hx hb d_St_currentRecord_58 (by decide) ?_
        exact W.iret (v := (nI 1)) hx hb hr (fun t ht hW => ⟨_, rfl, (by simp [cur, h_1, h_2, h_3]), ht⟩) (fun q h => by cases h) d_St_currentRecord_62
    · exact absurd (h_1.symm.trans h_2) (by decide)
  · refine lv_iload_n hx hb d_St_currentRecord_16 rfl (lv_at hl 0 rfl) ?_
    refine bz_eq (tgt := 47) hx hb d_St_currentRecord_17 (by decide) (fun h_4 => ?_) (fun h_4 => ?_)
    · refine lv_iload_n hx hb d_St_currentRecord_47 rfl (lv_at hl 1 rfl) ?_
      refine bz_eq (tgt := 53) hx hb d_St_currentRecord_48 (by decide) (fun h_5 => ?_) (fun h_5 => ?_)
      · exact absurd (h_1.symm.trans h_5) (by decide)
      · refine lv_iconst (v := (nI 0)) hx hb d_St_currentRecord_51 (by decide) ?_
        exact W.iret (v := (nI 0)) hx hb hr (fun t ht hW => ⟨_, rfl, (by simp [cur, h_1, h_4, h_5]), ht⟩) (fun q h => by cases h) d_St_currentRecord_52
    · refine lv_aload_n hx hb d_St_currentRecord_20 rfl (lv_at hl 2 rfl) ?_
      refine va_get (D := (dC, dI)) (ci := 2) (v := .ref hw) (C := R_St) (T := F_St) (N := 4) hx hb hts in_St hown hK hP 0 rfl rfl 0 (by decide) (hts _ kw_125) (fun _ h9 => h9) rfl d_St_currentRecord_21 ?_
      refine lv_iconst (v := (nI 1)) hx hb d_St_currentRecord_24 (by decide) ?_
      refine pr_call (va_runS (As := [.int (nI 1)]) (rest := [.ref hw]) ⟨hx, hb, hml, hown, hts⟩ (c_St_recordPlace l dC dI cI (k := 1) ) ⟨callB_of 1 hts (gd kw_254) rfl rfl rfl (hts _ kw_39) (hts _ kw_252) (by decide +kernel) ⟨Nat.le_of_ble_eq_true rfl, Nat.le_of_ble_eq_true rfl⟩, (hts _ kw_253)⟩ ⟨fun a U g mk q => by obtain ⟨q0, qP, qK⟩ := q; exact ⟨q0, qP, qK.call⟩, fun U hU hW => ⟨rfl, by rw [hU]; exact hP.sub [] rfl, hKN.warm hW⟩⟩ rfl rfl hl.1 rfl (lv_room (Nat.le_of_ble_eq_true rfl)) d_St_currentRecord_25 ⟨Nat.zero_le _, Nat.zero_le _⟩) ?_
      refine tp (y := (nI 37)) (by decide) ?_
      refine ar_ld (k := 37) hx hb hK hP 1 0 rfl rfl (by omega) (by first | decide | omega) d_St_currentRecord_28 ?_
      refine lv_aload_n hx hb d_St_currentRecord_29 rfl (lv_at hl 2 rfl) ?_
      refine va_get (D := (dC, dI)) (ci := 2) (v := .ref hw) (C := R_St) (T := F_St) (N := 4) hx hb hts in_St hown hK hP 0 rfl rfl 0 (by decide) (hts _ kw_125) (fun _ h9 => h9) rfl d_St_currentRecord_30 ?_
      refine lv_iconst (v := (nI 0)) hx hb d_St_currentRecord_33 (by decide) ?_
      refine pr_call (va_runS (As := [.int (nI 0)]) (rest := [.ref hw, .int (M 37)]) ⟨hx, hb, hml, hown, hts⟩ (c_St_recordPlace l dC dI cI (k := 0) ) ⟨callB_of 1 hts (gd kw_254) rfl rfl rfl (hts _ kw_39) (hts _ kw_252) (by decide +kernel) ⟨Nat.le_of_ble_eq_true rfl, Nat.le_of_ble_eq_true rfl⟩, (hts _ kw_253)⟩ ⟨fun a U g mk q => by obtain ⟨q0, qP, qK⟩ := q; exact ⟨q0, qP, qK.call⟩, fun U hU hW => ⟨rfl, by rw [hU]; exact hP.sub [] rfl, hKN.warm hW⟩⟩ rfl rfl hl.1 rfl (lv_room (Nat.le_of_ble_eq_true rfl)) d_St_currentRecord_34 ⟨Nat.zero_le _, Nat.zero_le _⟩) ?_
      refine tp (y := (nI 34)) (by decide) ?_
      refine ar_ld (k := 34) hx hb hK hP 1 0 rfl rfl (by omega) (by first | decide | omega) d_St_currentRecord_37 ?_
      refine lv_icmp_le (tgt := 45) hx hb d_St_currentRecord_38 (by decide) (fun h_6 => ?_) (fun h_6 => ?_)
      · refine lv_iconst (v := (nI 0)) hx hb d_St_currentRecord_45 (by decide) ?_
        exact W.iret (v := (nI 0)) hx hb hr (fun t ht hW => ⟨_, rfl, (by simp [cur, h_1, h_4, h_6]), ht⟩) (fun q h => by cases h) d_St_currentRecord_46
      · refine lv_iconst (v := (nI 1)) hx hb d_St_currentRecord_41 (by decide) ?_
        refine lv_goto (tgt := 46) hx hb d_St_currentRecord_42 (by decide) ?_
        exact W.iret (v := (nI 1)) hx hb hr (fun t ht hW => ⟨_, rfl, (by simp [cur, h_1, h_4, h_6]), ht⟩) (fun q h => by cases h) d_St_currentRecord_46
set_option maxHeartbeats 4000000 in
set_option maxRecDepth 100000 in
theorem c_St_entry (l : Launch) (dC : Nat → ClassId) (dI : Nat → Nat → Nat) (cI : ClassId) (hs : Nat) (hw : Nat) (bl : Nat) (dn : Int32) (lf : Int32) (M : Nat → Int32)  : Met l y_St_entry w_St_entry ({ frames := 4, cells := 0, slots := 0, locals := 87 }) (va_Pc [.ref hs] (fun U => va_P (dC, dI) classes [(hs, .inr (2, [.ref hw, .int (nI bl), .int dn, .int lf])), (hw, .inl (cI, 40, .inl M))] U.heap ∧ KN dC dI cI U)) (qr (ety M)) 0 0 (fun _ => False) := by
  refine Met.ofW (cc := b_St_entry) (maxL := 2) (ret := (some .int)) (by decide) rfl ?_
  intro p e s m args below meth c s₁ B hml hv
  obtain ⟨rfl, hP, hKN⟩ := hv
  have hK := hKN.1
  have hx := B.exec
  have hb := B.bytes
  have hr := B.returns
  have hts := fun (w : Cond) (h : w ∈ gt) => atoms_spec (ws := w_St_entry) B.pre w (List.mem_cons_of_mem _ h)
  have hown : s.vm.findClass R_St = some m.cls := findClass_of_methodNamed B.named
  have hlocks := B.notSynchronized
  have hl := lv_entry ([.ref hs]) (n := 2) (Nat.le_of_ble_eq_true rfl)
  rw [lg_entry_eq]
  generalize (lg_sl ([.ref hs]) ++ List.replicate (2 - (lg_sl ([.ref hs])).length) Slot.unset).toArray = ls at hl ⊢
  have hl : lv_has ls 2 [(0, .ref hs)] := hl
  refine lv_aload_n hx hb d_St_entry_0 rfl (lv_at hl 0 rfl) ?_
  refine pr_call (va_runV (As := []) (rest := []) ⟨hx, hb, hml, hown, hts⟩ (c_St_currentRecord l dC dI cI (hs := hs) (hw := hw) (bl := bl) (dn := dn) (lf := lf) (M := M) ) ⟨callB_of 0 hts (gd kw_247) rfl rfl rfl (hts _ kw_39) (hts _ kw_244) (by decide +kernel) ⟨Nat.le_of_ble_eq_true rfl, Nat.le_of_ble_eq_true rfl⟩, (hts _ kw_246), (hts _ kw_4)⟩ ⟨fun a U g mk q => by obtain ⟨q0, qP, qK⟩ := q; exact ⟨q0, qP, qK.call⟩, va_recv hK hP (ci := 2) rfl (q0 := 0) rfl, fun U hU hW => ⟨rfl, by rw [hU]; exact hP.sub [0, 1] rfl, hKN.warm hW⟩⟩ rfl rfl hl.1 rfl (lv_room (Nat.le_of_ble_eq_true rfl)) d_St_entry_1 ⟨Nat.zero_le _, Nat.zero_le _⟩) ?_
  rcases cur_cases M with hc | hc | hc
  · refine tp hc ?_
    refine lv_istore_n (lv' := [(1, .int (-1)), (0, .ref hs)]) hx hb d_St_entry_4 rfl hl (by decide) rfl (fun ls hl => ?_)
    refine lv_iload_n hx hb d_St_entry_5 rfl (lv_at hl 0 rfl) ?_
    refine lv_iconst (v := (-1)) hx hb d_St_entry_6 (by decide) ?_
    refine lv_icmp_ne (tgt := 14) hx hb d_St_entry_7 (by decide) (fun h_1 => ?_) (fun h_1 => ?_)
    · exact absurd h_1 (by decide)
    · refine lv_iconst (v := (nI 0)) hx hb d_St_entry_10 (by decide) ?_
      refine lv_goto (tgt := 25) hx hb d_St_entry_11 (by decide) ?_
      exact W.iret (v := (nI 0)) hx hb hr (fun t ht hW => ⟨_, rfl, (by rw [ety, hc]; rfl), ht⟩) (fun q h => by cases h) d_St_entry_25
  · refine tp hc ?_
    refine lv_istore_n (lv' := [(1, .int (nI 0)), (0, .ref hs)]) hx hb d_St_entry_4 rfl hl (by decide) rfl (fun ls hl => ?_)
    refine lv_iload_n hx hb d_St_entry_5 rfl (lv_at hl 0 rfl) ?_
    refine lv_iconst (v := (-1)) hx hb d_St_entry_6 (by decide) ?_
    refine lv_icmp_ne (tgt := 14) hx hb d_St_entry_7 (by decide) (fun h_2 => ?_) (fun h_2 => ?_)
    · refine lv_aload_n hx hb d_St_entry_14 rfl (lv_at hl 1 rfl) ?_
      refine va_get (D := (dC, dI)) (ci := 2) (v := .ref hw) (C := R_St) (T := F_St) (N := 4) hx hb hts in_St hown hK hP 0 rfl rfl 0 (by decide) (hts _ kw_125) (fun _ h9 => h9) rfl d_St_entry_15 ?_
      refine lv_iload_n hx hb d_St_entry_18 rfl (lv_at hl 0 rfl) ?_
      refine pr_call (va_runS (As := [.int (nI 0)]) (rest := [.ref hw]) ⟨hx, hb, hml, hown, hts⟩ (c_St_recordPlace l dC dI cI (k := 0) ) ⟨callB_of 1 hts (gd kw_254) rfl rfl rfl (hts _ kw_39) (hts _ kw_252) (by decide +kernel) ⟨Nat.le_of_ble_eq_true rfl, Nat.le_of_ble_eq_true rfl⟩, (hts _ kw_253)⟩ ⟨fun a U g mk q => by obtain ⟨q0, qP, qK⟩ := q; exact ⟨q0, qP, qK.call⟩, fun U hU hW => ⟨rfl, by rw [hU]; exact hP.sub [] rfl, hKN.warm hW⟩⟩ rfl rfl hl.1 rfl (lv_room (Nat.le_of_ble_eq_true rfl)) d_St_entry_19 ⟨Nat.zero_le _, Nat.zero_le _⟩) ?_
      refine tp (y := (nI 34)) (by decide) ?_
      refine lv_iconst (v := (nI 1)) hx hb d_St_entry_22 (by decide) ?_
      refine lv_iadd hx hb d_St_entry_23 ?_
      refine tp (y := (nI 35)) (by decide) ?_
      refine ar_ld (k := 35) hx hb hK hP 1 0 rfl rfl (by omega) (by first | decide | omega) d_St_entry_24 ?_
      exact W.iret (v := (M 35)) hx hb hr (fun t ht hW => ⟨_, rfl, (by rw [ety, hc]; rfl), ht⟩) (fun q h => by cases h) d_St_entry_25
    · exact absurd h_2 (by decide)
  · refine tp hc ?_
    refine lv_istore_n (lv' := [(1, .int (nI 1)), (0, .ref hs)]) hx hb d_St_entry_4 rfl hl (by decide) rfl (fun ls hl => ?_)
    refine lv_iload_n hx hb d_St_entry_5 rfl (lv_at hl 0 rfl) ?_
    refine lv_iconst (v := (-1)) hx hb d_St_entry_6 (by decide) ?_
    refine lv_icmp_ne (tgt := 14) hx hb d_St_entry_7 (by decide) (fun h_3 => ?_) (fun h_3 => ?_)
    · refine lv_aload_n hx hb d_St_entry_14 rfl (lv_at hl 1 rfl) ?_
      refine va_get (D := (dC, dI)) (ci := 2) (v := .ref hw) (C := R_St) (T := F_St) (N := 4) hx hb hts in_St hown hK hP 0 rfl rfl 0 (by decide) (hts _ kw_125) (fun _ h9 => h9) rfl d_St_entry_15 ?_
      refine lv_iload_n hx hb d_St_entry_18 rfl (lv_at hl 0 rfl) ?_
      refine pr_call (va_runS (As := [.int (nI 1)]) (rest := [.ref hw]) ⟨hx, hb, hml, hown, hts⟩ (c_St_recordPlace l dC dI cI (k := 1) ) ⟨callB_of 1 hts (gd kw_254) rfl rfl rfl (hts _ kw_39) (hts _ kw_252) (by decide +kernel) ⟨Nat.le_of_ble_eq_true rfl, Nat.le_of_ble_eq_true rfl⟩, (hts _ kw_253)⟩ ⟨fun a U g mk q => by obtain ⟨q0, qP, qK⟩ := q; exact ⟨q0, qP, qK.call⟩, fun U hU hW => ⟨rfl, by rw [hU]; exact hP.sub [] rfl, hKN.warm hW⟩⟩ rfl rfl hl.1 rfl (lv_room (Nat.le_of_ble_eq_true rfl)) d_St_entry_19 ⟨Nat.zero_le _, Nat.zero_le _⟩) ?_
      refine tp (y := (nI 37)) (by decide) ?_
      refine lv_iconst (v := (nI 1)) hx hb d_St_entry_22 (by decide) ?_
      refine lv_iadd hx hb d_St_entry_23 ?_
      refine tp (y := (nI 38)) (by decide) ?_
      refine ar_ld (k := 38) hx hb hK hP 1 0 rfl rfl (by omega) (by first | decide | omega) d_St_entry_24 ?_
      exact W.iret (v := (M 38)) hx hb hr (fun t ht hW => ⟨_, rfl, (by rw [ety, hc]; rfl), ht⟩) (fun q h => by cases h) d_St_entry_25
    · exact absurd h_3 (by decide)
set_option maxHeartbeats 4000000 in
set_option maxRecDepth 100000 in
theorem c_St_mayWrite (l : Launch) (dC : Nat → ClassId) (dI : Nat → Nat → Nat) (cI : ClassId) (hs : Nat) (hw : Nat) (bl : Nat) (dn : Int32) (lf : Int32)  (sz : Nat) : Met l y_St_mayWrite w_St_mayWrite ({ frames := 0, cells := 0, slots := 0, locals := 0 }) (va_Pc [.ref hs] (fun U => U.heap.size = sz ∧ va_P (dC, dI) classes [(hs, .inr (2, [.ref hw, .int (nI bl), .int dn, .int lf]))] U.heap ∧ KN dC dI cI U ∧ va_D (fun _ => True) [(hs, .inr (2, [.ref hw, .int (nI bl), .int dn, .int lf]))])) (va_Qi (fun (r : Int32) (u : Int32 × Int32) => ∃ res : Bool, r = bI res ∧ (pMay dn lf = (res, u))) (fun (u : Int32 × Int32) t => va_P (dC, dI) classes [(hs, .inr (2, [.ref hw, .int (nI bl), .int u.1, .int u.2]))] t.heap ∧ va_D (va_A [(hs, .inr (2, [.ref hw, .int (nI bl), .int dn, .int lf]))] sz) [(hs, .inr (2, [.ref hw, .int (nI bl), .int u.1, .int u.2]))]) (va_A [(hs, .inr (2, [.ref hw, .int (nI bl), .int dn, .int lf]))] sz)) 0 0 (va_A [(hs, .inr (2, [.ref hw, .int (nI bl), .int dn, .int lf]))] sz) := by
  refine Met.ofW (cc := b_St_mayWrite) (maxL := 1) (ret := (some .boolean)) (by decide) rfl ?_
  intro p e s m args below meth c s₁ B hml hv
  obtain ⟨rfl, hsz, hP, hKN, hD0⟩ := hv
  have hK := hKN.1
  have hx := B.exec
  have hb := B.bytes
  have hr := B.returns
  have hts := fun (w : Cond) (h : w ∈ gt) => atoms_spec (ws := w_St_mayWrite) B.pre w (List.mem_cons_of_mem _ h)
  have hown : s.vm.findClass R_St = some m.cls := findClass_of_methodNamed B.named
  have hlocks := B.notSynchronized
  subst hsz
  have hD := hD0.self (sz := s.heap.size)
  generalize hAe : va_A [(hs, .inr (2, [.ref hw, .int (nI bl), .int dn, .int lf]))] s.heap.size = A at hD ⊢
  have hA : ∀ q : Nat, s.heap.size ≤ q → A q := fun q h => by rw [← hAe]; exact Or.inr h
  have hS : va_S A s.heap s.heap [] := va_S.rf
  have hP : va_P (dC, dI) classes [(hs, .inr (2, [.ref hw, .int (nI bl), .int dn, .int lf]))] s.heap := hP
  clear hAe hD0
  have hl := lv_entry ([.ref hs]) (n := 1) (Nat.le_of_ble_eq_true rfl)
  rw [lg_entry_eq]
  generalize (lg_sl ([.ref hs]) ++ List.replicate (1 - (lg_sl ([.ref hs])).length) Slot.unset).toArray = ls at hl ⊢
  have hl : lv_has ls 1 [(0, .ref hs)] := hl
  refine lv_aload_n hx hb d_St_mayWrite_0 rfl (lv_at hl 0 rfl) ?_
  refine va_get (D := (dC, dI)) (ci := 2) (v := .int lf) (C := R_St) (T := F_St) (N := 4) hx hb hts in_St hown hK hP 0 rfl rfl 3 (by decide) (hts _ kw_131) (fun _ h9 => h9) rfl d_St_mayWrite_1 ?_
  refine lv_if_ne (tgt := 14) hx hb d_St_mayWrite_4 (by decide) (fun h_1 => ?_) (fun h_1 => ?_)
  · refine lv_aload_n hx hb d_St_mayWrite_14 rfl (lv_at hl 0 rfl) ?_
    refine va_get (D := (dC, dI)) (ci := 2) (v := .int lf) (C := R_St) (T := F_St) (N := 4) hx hb hts in_St hown hK hP 0 rfl rfl 3 (by decide) (hts _ kw_131) (fun _ h9 => h9) rfl d_St_mayWrite_15 ?_
    refine lv_if_le (tgt := 31) hx hb d_St_mayWrite_18 (by decide) (fun h_2 => ?_) (fun h_2 => ?_)
    · refine lv_aload_n hx hb d_St_mayWrite_31 rfl (lv_at hl 0 rfl) ?_
      refine lv_dup hx hb d_St_mayWrite_32 rfl ?_
      refine va_get (D := (dC, dI)) (ci := 2) (v := .int dn) (C := R_St) (T := F_St) (N := 4) hx hb hts in_St hown hK hP 0 rfl rfl 2 (by decide) (hts _ kw_129) (fun _ h9 => h9) rfl d_St_mayWrite_33 ?_
      refine lv_iconst (v := (nI 1)) hx hb d_St_mayWrite_36 (by decide) ?_
      refine lv_iadd hx hb d_St_mayWrite_37 ?_
      refine va_put (D := (dC, dI)) (ci := 2) (v := .int (dn + (nI 1))) (ty := .int) (C := R_St) (T := F_St) (N := 4) hx hb hts in_St t_St t_St_ok n_St hown hK hP hD hS 0 rfl rfl 2 (by decide) (hts _ kw_129) (fun _ h9 => h9) rfl (by decide +kernel) rfl rfl (Nat.le_of_ble_eq_true rfl) d_St_mayWrite_38 (fun H locs hP hD hS => ?_)
      have hP : va_P (dC, dI) classes [(hs, .inr (2, [.ref hw, .int (nI bl), .int (dn + (nI 1)), .int lf]))] H := hP
      have hD : va_D A [(hs, .inr (2, [.ref hw, .int (nI bl), .int (dn + (nI 1)), .int lf]))] := hD
      refine lv_iconst (v := (nI 1)) hx hb d_St_mayWrite_41 (by decide) ?_
      exact W.zret (v := (bI true)) hx hb hr (bI_narrow _) (fun t ht hW => ⟨⟨_, (dn + (nI 1), lf), rfl, ⟨true, rfl, (by first | rfl | (simp only [pMay, if_neg h_1, if_pos h_2]; done) | (simp only [pMay, if_neg h_1, if_pos h_2]; rfl) | (simp [pMay, h_1, h_2]; done))⟩, by rw [ht]; exact hP, hD⟩, hS.F ht⟩) hS.2.2 d_St_mayWrite_42
    · refine lv_aload_n hx hb d_St_mayWrite_21 rfl (lv_at hl 0 rfl) ?_
      refine lv_dup hx hb d_St_mayWrite_22 rfl ?_
      refine va_get (D := (dC, dI)) (ci := 2) (v := .int lf) (C := R_St) (T := F_St) (N := 4) hx hb hts in_St hown hK hP 0 rfl rfl 3 (by decide) (hts _ kw_131) (fun _ h9 => h9) rfl d_St_mayWrite_23 ?_
      refine lv_iconst (v := (nI 1)) hx hb d_St_mayWrite_26 (by decide) ?_
      refine lv_isub hx hb d_St_mayWrite_27 ?_
      refine va_put (D := (dC, dI)) (ci := 2) (v := .int (lf - (nI 1))) (ty := .int) (C := R_St) (T := F_St) (N := 4) hx hb hts in_St t_St t_St_ok n_St hown hK hP hD hS 0 rfl rfl 3 (by decide) (hts _ kw_131) (fun _ h9 => h9) rfl (by decide +kernel) rfl rfl (Nat.le_of_ble_eq_true rfl) d_St_mayWrite_28 (fun H locs hP hD hS => ?_)
      have hP : va_P (dC, dI) classes [(hs, .inr (2, [.ref hw, .int (nI bl), .int dn, .int (lf - (nI 1))]))] H := hP
      have hD : va_D A [(hs, .inr (2, [.ref hw, .int (nI bl), .int dn, .int (lf - (nI 1))]))] := hD
      refine lv_aload_n hx hb d_St_mayWrite_31 rfl (lv_at hl 0 rfl) ?_
      refine lv_dup hx hb d_St_mayWrite_32 rfl ?_
      refine va_get (D := (dC, dI)) (ci := 2) (v := .int dn) (C := R_St) (T := F_St) (N := 4) hx hb hts in_St hown hK hP 0 rfl rfl 2 (by decide) (hts _ kw_129) (fun _ h9 => h9) rfl d_St_mayWrite_33 ?_
      refine lv_iconst (v := (nI 1)) hx hb d_St_mayWrite_36 (by decide) ?_
      refine lv_iadd hx hb d_St_mayWrite_37 ?_
      refine va_put (D := (dC, dI)) (ci := 2) (v := .int (dn + (nI 1))) (ty := .int) (C := R_St) (T := F_St) (N := 4) hx hb hts in_St t_St t_St_ok n_St hown hK hP hD hS 0 rfl rfl 2 (by decide) (hts _ kw_129) (fun _ h9 => h9) rfl (by decide +kernel) rfl rfl (Nat.le_of_ble_eq_true rfl) d_St_mayWrite_38 (fun H locs hP hD hS => ?_)
      have hP : va_P (dC, dI) classes [(hs, .inr (2, [.ref hw, .int (nI bl), .int (dn + (nI 1)), .int (lf - (nI 1))]))] H := hP
      have hD : va_D A [(hs, .inr (2, [.ref hw, .int (nI bl), .int (dn + (nI 1)), .int (lf - (nI 1))]))] := hD
      refine lv_iconst (v := (nI 1)) hx hb d_St_mayWrite_41 (by decide) ?_
      exact W.zret (v := (bI true)) hx hb hr (bI_narrow _) (fun t ht hW => ⟨⟨_, (dn + (nI 1), lf - (nI 1)), rfl, ⟨true, rfl, (by first | rfl | (simp only [pMay, if_neg h_1, if_neg h_2]; done) | (simp only [pMay, if_neg h_1, if_neg h_2]; rfl) | (simp [pMay, h_1, h_2]; done))⟩, by rw [ht]; exact hP, hD⟩, hS.F ht⟩) hS.2.2 d_St_mayWrite_42
  · refine lv_aload_n hx hb d_St_mayWrite_7 rfl (lv_at hl 0 rfl) ?_
    refine lv_iconst (v := (-1)) hx hb d_St_mayWrite_8 (by decide) ?_
    refine va_put (D := (dC, dI)) (ci := 2) (v := .int (-1)) (ty := .int) (C := R_St) (T := F_St) (N := 4) hx hb hts in_St t_St t_St_ok n_St hown hK hP hD hS 0 rfl rfl 3 (by decide) (hts _ kw_131) (fun _ h9 => h9) rfl (by decide +kernel) rfl rfl (Nat.le_of_ble_eq_true rfl) d_St_mayWrite_9 (fun H locs hP hD hS => ?_)
    have hP : va_P (dC, dI) classes [(hs, .inr (2, [.ref hw, .int (nI bl), .int dn, .int (-1)]))] H := hP
    have hD : va_D A [(hs, .inr (2, [.ref hw, .int (nI bl), .int dn, .int (-1)]))] := hD
    refine lv_iconst (v := (nI 0)) hx hb d_St_mayWrite_12 (by decide) ?_
    exact W.zret (v := (bI false)) hx hb hr (bI_narrow _) (fun t ht hW => ⟨⟨_, (dn, (-1)), rfl, ⟨false, rfl, (by first | rfl | (simp only [pMay, if_pos h_1]; done) | (simp only [pMay, if_pos h_1]; rfl) | (simp [pMay, h_1]; done))⟩, by rw [ht]; exact hP, hD⟩, hS.F ht⟩) hS.2.2 d_St_mayWrite_13
set_option maxHeartbeats 4000000 in
set_option maxRecDepth 100000 in
theorem c_St_put (l : Launch) (dC : Nat → ClassId) (dI : Nat → Nat → Nat) (cI : ClassId) (hs : Nat) (k : Nat) (x : Int32) (hw : Nat) (bl : Nat) (dn : Int32) (lf : Int32) (M : Nat → Int32) (hk : k < 40) (sz : Nat) : Met l y_St_put w_St_put ({ frames := 1, cells := 0, slots := 0, locals := 20 }) (va_Pc [.ref hs, .int (nI k), .int x] (fun U => U.heap.size = sz ∧ va_P (dC, dI) classes [(hs, .inr (2, [.ref hw, .int (nI bl), .int dn, .int lf])), (hw, .inl (cI, 40, .inl M))] U.heap ∧ KN dC dI cI U ∧ va_D (fun _ => True) [(hs, .inr (2, [.ref hw, .int (nI bl), .int dn, .int lf])), (hw, .inl (cI, 40, .inl M))])) (va_Qi (fun (r : Int32) (u : (Nat → Int32) × Int32 × Int32) => ∃ res : Bool, r = bI res ∧ (pPut M dn lf k x = (res, u))) (fun (u : (Nat → Int32) × Int32 × Int32) t => va_P (dC, dI) classes [(hs, .inr (2, [.ref hw, .int (nI bl), .int u.2.1, .int u.2.2])), (hw, .inl (cI, 40, .inl u.1))] t.heap ∧ va_D (va_A [(hs, .inr (2, [.ref hw, .int (nI bl), .int dn, .int lf])), (hw, .inl (cI, 40, .inl M))] sz) [(hs, .inr (2, [.ref hw, .int (nI bl), .int u.2.1, .int u.2.2])), (hw, .inl (cI, 40, .inl u.1))]) (va_A [(hs, .inr (2, [.ref hw, .int (nI bl), .int dn, .int lf])), (hw, .inl (cI, 40, .inl M))] sz)) 0 0 (va_A [(hs, .inr (2, [.ref hw, .int (nI bl), .int dn, .int lf])), (hw, .inl (cI, 40, .inl M))] sz) := by
  refine Met.ofW (cc := b_St_put) (maxL := 3) (ret := (some .boolean)) (by decide) rfl ?_
  intro p e s m args below meth c s₁ B hml hv
  obtain ⟨rfl, hsz, hP, hKN, hD0⟩ := hv
  have hK := hKN.1
  have hx := B.exec
  have hb := B.bytes
  have hr := B.returns
  have hts := fun (w : Cond) (h : w ∈ gt) => atoms_spec (ws := w_St_put) B.pre w (List.mem_cons_of_mem _ h)
  have hown : s.vm.findClass R_St = some m.cls := findClass_of_methodNamed B.named
  have hlocks := B.notSynchronized
  subst hsz
  have hD := hD0.self (sz := s.heap.size)
  generalize hAe : va_A [(hs, .inr (2, [.ref hw, .int (nI bl), .int dn, .int lf])), (hw, .inl (cI, 40, .inl M))] s.heap.size = A at hD ⊢
  have hA : ∀ q : Nat, s.heap.size ≤ q → A q := fun q h => by rw [← hAe]; exact Or.inr h
  have hS : va_S A s.heap s.heap [] := va_S.rf
  have hP : va_P (dC, dI) classes [(hs, .inr (2, [.ref hw, .int (nI bl), .int dn, .int lf])), (hw, .inl (cI, 40, .inl M))] s.heap := hP
  clear hAe hD0
  have hl := lv_entry ([.ref hs, .int (nI k), .int x]) (n := 3) (Nat.le_of_ble_eq_true rfl)
  rw [lg_entry_eq]
  generalize (lg_sl ([.ref hs, .int (nI k), .int x]) ++ List.replicate (3 - (lg_sl ([.ref hs, .int (nI k), .int x])).length) Slot.unset).toArray = ls at hl ⊢
  have hl : lv_has ls 3 [(0, .ref hs), (1, .int (nI k)), (2, .int x)] := hl
  refine lv_aload_n hx hb d_St_put_0 rfl (lv_at hl 0 rfl) ?_
  have hPc := hP.sub (ws' := [(hs, .inr (2, [.ref hw, .int (nI bl), .int dn, .int lf]))]) [0] rfl
  have hDc := hD.sub (ws' := [(hs, .inr (2, [.ref hw, .int (nI bl), .int dn, .int lf]))]) [0] (by decide) rfl
  have hFc := va_free (wc := [(hs, .inr (2, [.ref hw, .int (nI bl), .int dn, .int lf]))]) hD hS hA [0] rfl
  refine va_calli (va_runV (As := []) (rest := []) ⟨hx, hb, hml, hown, hts⟩ (c_St_mayWrite l dC dI cI (hs := hs) (hw := hw) (bl := bl) (dn := dn) (lf := lf)  (sz := s.heap.size)) ⟨callB_of 0 hts (gd kw_282) rfl rfl rfl (hts _ kw_39) (hts _ kw_279) (by decide +kernel) ⟨Nat.le_of_ble_eq_true rfl, Nat.le_of_ble_eq_true rfl⟩, (hts _ kw_281), (hts _ kw_8)⟩ ⟨fun a U g mk q => by obtain ⟨q0, q1, qP, qK, qD⟩ := q; exact ⟨q0, q1, qP, qK.call, qD⟩, va_recv hK hP (ci := 2) rfl (q0 := 0) rfl, fun U hU hW => ⟨rfl, by rw [hU], by rw [hU]; exact hPc, hKN.warm hW, hDc.weaken (fun _ _ _ _ => trivial)⟩⟩ rfl rfl hl.1 rfl (lv_room (Nat.le_of_ble_eq_true rfl)) d_St_put_1 ⟨Nat.zero_le _, Nat.zero_le _⟩) hS (fun q _ h => hFc q h) hFc (fun r u t H1 locs zt zvm zw zB zz zk hS => ?_)
  obtain ⟨dn_1, lf_1⟩ := u
  obtain ⟨b_1, rfl, hu_1⟩ := zw
  obtain ⟨hP1, hD1⟩ := zB
  rw [zt] at hP1
  have hP1 : va_P (dC, dI) classes [(hs, .inr (2, [.ref hw, .int (nI bl), .int dn_1, .int lf_1]))] H1 := hP1
  obtain ⟨hP, hD⟩ := va_join (wc := [(hs, .inr (2, [.ref hw, .int (nI bl), .int dn, .int lf]))]) (wr := [(hw, .inl (cI, 40, .inl M))]) (w1 := [(hs, .inr (2, [.ref hw, .int (nI bl), .int dn_1, .int lf_1]))]) hP hD [0] [1] rfl rfl (by decide) (by decide) zk hFc hP1 hD1
  generalize H1 = H at hP hS ⊢
  have hP : va_P (dC, dI) classes [(hs, .inr (2, [.ref hw, .int (nI bl), .int dn_1, .int lf_1])), (hw, .inl (cI, 40, .inl M))] H := hP.sub [1, 0] rfl
  have hD : va_D A [(hs, .inr (2, [.ref hw, .int (nI bl), .int dn_1, .int lf_1])), (hw, .inl (cI, 40, .inl M))] := hD.sub [1, 0] (by decide) rfl
  clear hPc hDc hFc hP1 hD1 zk zz zvm zt
  refine bz_ne (tgt := 9) hx hb d_St_put_4 (by decide) (fun h_2 => ?_) (fun h_2 => ?_)
  · subst h_2
    refine lv_aload_n hx hb d_St_put_9 rfl (lv_at hl 0 rfl) ?_
    refine va_get (D := (dC, dI)) (ci := 2) (v := .ref hw) (C := R_St) (T := F_St) (N := 4) hx hb hts in_St hown hK hP 0 rfl rfl 0 (by decide) (hts _ kw_125) (fun _ h9 => h9) rfl d_St_put_10 ?_
    refine lv_iload_n hx hb d_St_put_13 rfl (lv_at hl 1 rfl) ?_
    refine lv_iload_n hx hb d_St_put_14 rfl (lv_at hl 2 rfl) ?_
    refine ar_st (k := k) hx hb hK hP hD hS 1 0 rfl rfl (by omega) (by first | decide | omega) d_St_put_15 (fun H locs hP hD hS => ?_)
    have hP : va_P (dC, dI) classes [(hs, .inr (2, [.ref hw, .int (nI bl), .int dn_1, .int lf_1])), (hw, .inl (cI, 40, .inl (upd M k x)))] H := hP
    have hD : va_D A [(hs, .inr (2, [.ref hw, .int (nI bl), .int dn_1, .int lf_1])), (hw, .inl (cI, 40, .inl (upd M k x)))] := hD
    refine lv_iconst (v := (nI 1)) hx hb d_St_put_16 (by decide) ?_
    exact W.zret (v := (bI true)) hx hb hr (bI_narrow _) (fun t ht hW => ⟨⟨_, (upd M k x, dn_1, lf_1), rfl, ⟨true, rfl, (by first | rfl | (simp only [pPut, hu_1]; done) | (simp only [pPut, hu_1]; rfl) | (simp [pPut, hu_1]; done))⟩, by rw [ht]; exact hP, hD⟩, hS.F ht⟩) hS.2.2 d_St_put_17
  · subst h_2
    refine lv_iconst (v := (nI 0)) hx hb d_St_put_7 (by decide) ?_
    exact W.zret (v := (bI false)) hx hb hr (bI_narrow _) (fun t ht hW => ⟨⟨_, (M, dn_1, lf_1), rfl, ⟨false, rfl, (by first | rfl | (simp only [pPut, hu_1]; done) | (simp only [pPut, hu_1]; rfl) | (simp [pPut, hu_1]; done))⟩, by rw [ht]; exact hP, hD⟩, hS.F ht⟩) hS.2.2 d_St_put_8
set_option maxHeartbeats 4000000 in
set_option maxRecDepth 100000 in
theorem c_St_writeTable (l : Launch) (dC : Nat → ClassId) (dI : Nat → Nat → Nat) (cI : ClassId) (hs : Nat) (en : Int32) (hw : Nat) (bl : Nat) (dn : Int32) (lf : Int32) (M : Nat → Int32)  (sz : Nat) : Met l y_St_writeTable w_St_writeTable ({ frames := 4, cells := 0, slots := 0, locals := 87 }) (va_Pc [.ref hs, .int en] (fun U => U.heap.size = sz ∧ va_P (dC, dI) classes [(hs, .inr (2, [.ref hw, .int (nI bl), .int dn, .int lf])), (hw, .inl (cI, 40, .inl M))] U.heap ∧ KN dC dI cI U ∧ va_D (fun _ => True) [(hs, .inr (2, [.ref hw, .int (nI bl), .int dn, .int lf])), (hw, .inl (cI, 40, .inl M))])) (va_Qi (fun (r : Int32) (u : (Nat → Int32) × Int32 × Int32) => ∃ res : Bool, r = bI res ∧ (pTab M dn lf en = (res, u))) (fun (u : (Nat → Int32) × Int32 × Int32) t => va_P (dC, dI) classes [(hs, .inr (2, [.ref hw, .int (nI bl), .int u.2.1, .int u.2.2])), (hw, .inl (cI, 40, .inl u.1))] t.heap ∧ va_D (va_A [(hs, .inr (2, [.ref hw, .int (nI bl), .int dn, .int lf])), (hw, .inl (cI, 40, .inl M))] sz) [(hs, .inr (2, [.ref hw, .int (nI bl), .int u.2.1, .int u.2.2])), (hw, .inl (cI, 40, .inl u.1))]) (va_A [(hs, .inr (2, [.ref hw, .int (nI bl), .int dn, .int lf])), (hw, .inl (cI, 40, .inl M))] sz)) 0 0 (va_A [(hs, .inr (2, [.ref hw, .int (nI bl), .int dn, .int lf])), (hw, .inl (cI, 40, .inl M))] sz) := by
  refine Met.ofW (cc := b_St_writeTable) (maxL := 6) (ret := (some .boolean)) (by decide) rfl ?_
  intro p e s m args below meth c s₁ B hml hv
  obtain ⟨rfl, hsz, hP, hKN, hD0⟩ := hv
  have hK := hKN.1
  have hx := B.exec
  have hb := B.bytes
  have hr := B.returns
  have hts := fun (w : Cond) (h : w ∈ gt) => atoms_spec (ws := w_St_writeTable) B.pre w (List.mem_cons_of_mem _ h)
  have hown : s.vm.findClass R_St = some m.cls := findClass_of_methodNamed B.named
  have hlocks := B.notSynchronized
  subst hsz
  have hD := hD0.self (sz := s.heap.size)
  generalize hAe : va_A [(hs, .inr (2, [.ref hw, .int (nI bl), .int dn, .int lf])), (hw, .inl (cI, 40, .inl M))] s.heap.size = A at hD ⊢
  have hA : ∀ q : Nat, s.heap.size ≤ q → A q := fun q h => by rw [← hAe]; exact Or.inr h
  have hS : va_S A s.heap s.heap [] := va_S.rf
  have hP : va_P (dC, dI) classes [(hs, .inr (2, [.ref hw, .int (nI bl), .int dn, .int lf])), (hw, .inl (cI, 40, .inl M))] s.heap := hP
  clear hAe hD0
  have hl := lv_entry ([.ref hs, .int en]) (n := 6) (Nat.le_of_ble_eq_true rfl)
  rw [lg_entry_eq]
  generalize (lg_sl ([.ref hs, .int en]) ++ List.replicate (6 - (lg_sl ([.ref hs, .int en])).length) Slot.unset).toArray = ls at hl ⊢
  have hl : lv_has ls 6 [(0, .ref hs), (1, .int en)] := hl
  refine lv_aload_n hx hb d_St_writeTable_0 rfl (lv_at hl 0 rfl) ?_
  refine pr_call (va_runV (As := []) (rest := []) ⟨hx, hb, hml, hown, hts⟩ (c_St_currentRecord l dC dI cI (hs := hs) (hw := hw) (bl := bl) (dn := dn) (lf := lf) (M := M) ) ⟨callB_of 0 hts (gd kw_247) rfl rfl rfl (hts _ kw_39) (hts _ kw_244) (by decide +kernel) ⟨Nat.le_of_ble_eq_true rfl, Nat.le_of_ble_eq_true rfl⟩, (hts _ kw_246), (hts _ kw_4)⟩ ⟨fun a U g mk q => by obtain ⟨q0, qP, qK⟩ := q; exact ⟨q0, qP, qK.call⟩, va_recv hK hP (ci := 2) rfl (q0 := 0) rfl, fun U hU hW => ⟨rfl, by rw [hU]; exact hP.sub [0, 1] rfl, hKN.warm hW⟩⟩ rfl rfl hl.1 rfl (lv_room (Nat.le_of_ble_eq_true rfl)) d_St_writeTable_1 ⟨Nat.zero_le _, Nat.zero_le _⟩) ?_
  rcases cur_cases M with hc | hc | hc
  · refine tp hc ?_
    refine lv_istore_n (lv' := [(2, .int (-1)), (0, .ref hs), (1, .int en)]) hx hb d_St_writeTable_4 rfl hl (by decide) rfl (fun ls hl => ?_)
    refine lv_iload_n hx hb d_St_writeTable_5 rfl (lv_at hl 0 rfl) ?_
    refine lv_iconst (v := (-1)) hx hb d_St_writeTable_6 (by decide) ?_
    refine lv_icmp_ne (tgt := 14) hx hb d_St_writeTable_7 (by decide) (fun h_1 => ?_) (fun h_1 => ?_)
    · exact absurd h_1 (by decide)
    · refine lv_iconst (v := (nI 1)) hx hb d_St_writeTable_10 (by decide) ?_
      refine lv_goto (tgt := 25) hx hb d_St_writeTable_11 (by decide) ?_
      refine lv_istore_n (lv' := [(3, .int (nI 1)), (2, .int (-1)), (0, .ref hs), (1, .int en)]) hx hb d_St_writeTable_25 rfl hl (by decide) rfl (fun ls hl => ?_)
      refine lv_iload_n hx hb d_St_writeTable_26 rfl (lv_at hl 1 rfl) ?_
      refine lv_if_ne (tgt := 34) hx hb d_St_writeTable_27 (by decide) (fun h_2 => ?_) (fun h_2 => ?_)
      · refine lv_iconst (v := (nI 0)) hx hb d_St_writeTable_34 (by decide) ?_
        refine pr_call (va_runS (As := [.int (nI 0)]) (rest := []) ⟨hx, hb, hml, hown, hts⟩ (c_St_recordPlace l dC dI cI (k := 0) ) ⟨callB_of 1 hts (gd kw_254) rfl rfl rfl (hts _ kw_39) (hts _ kw_252) (by decide +kernel) ⟨Nat.le_of_ble_eq_true rfl, Nat.le_of_ble_eq_true rfl⟩, (hts _ kw_253)⟩ ⟨fun a U g mk q => by obtain ⟨q0, qP, qK⟩ := q; exact ⟨q0, qP, qK.call⟩, fun U hU hW => ⟨rfl, by rw [hU]; exact hP.sub [] rfl, hKN.warm hW⟩⟩ rfl rfl hl.1 rfl (lv_room (Nat.le_of_ble_eq_true rfl)) d_St_writeTable_35 ⟨Nat.zero_le _, Nat.zero_le _⟩) ?_
        refine tp (y := (nI 34)) (by decide) ?_
        refine lv_istore (lv' := [(4, .int (nI 34)), (3, .int (nI 1)), (2, .int (-1)), (0, .ref hs), (1, .int en)]) hx hb d_St_writeTable_38 hl (by decide) rfl (fun ls hl => ?_)
        refine lv_iload_n hx hb d_St_writeTable_40 rfl (lv_at hl 4 rfl) ?_
        refine lv_bipush (v := (nI 31)) hx hb d_St_writeTable_41 (by decide) ?_
        refine lv_iand hx hb d_St_writeTable_43 ?_
        refine lv_istore (lv' := [(5, .int (en &&& (nI 31))), (4, .int (nI 34)), (3, .int (nI 1)), (2, .int (-1)), (0, .ref hs), (1, .int en)]) hx hb d_St_writeTable_44 hl (by decide) rfl (fun ls hl => ?_)
        refine lv_aload_n hx hb d_St_writeTable_46 rfl (lv_at hl 4 rfl) ?_
        refine lv_iload hx hb d_St_writeTable_47 (lv_at hl 1 rfl) ?_
        refine lv_iload_n hx hb d_St_writeTable_49 rfl (lv_at hl 2 rfl) ?_
        have hPc := hP.sub (ws' := [(hs, .inr (2, [.ref hw, .int (nI bl), .int dn, .int lf])), (hw, .inl (cI, 40, .inl M))]) [0, 1] rfl
        have hDc := hD.sub (ws' := [(hs, .inr (2, [.ref hw, .int (nI bl), .int dn, .int lf])), (hw, .inl (cI, 40, .inl M))]) [0, 1] (by decide) rfl
        have hFc := va_free (wc := [(hs, .inr (2, [.ref hw, .int (nI bl), .int dn, .int lf])), (hw, .inl (cI, 40, .inl M))]) hD hS hA [0, 1] rfl
        refine va_calli (va_runV (As := [.int (nI 34), .int (nI 1)]) (rest := []) ⟨hx, hb, hml, hown, hts⟩ (c_St_put l dC dI cI (hs := hs) (k := 34) (x := (nI 1)) (hw := hw) (bl := bl) (dn := dn) (lf := lf) (M := M) (hk := (by omega)) (sz := s.heap.size)) ⟨callB_of 2 hts (gd kw_278) rfl rfl rfl (hts _ kw_39) (hts _ kw_275) (by decide +kernel) ⟨Nat.le_of_ble_eq_true rfl, Nat.le_of_ble_eq_true rfl⟩, (hts _ kw_277), (hts _ kw_7)⟩ ⟨fun a U g mk q => by obtain ⟨q0, q1, qP, qK, qD⟩ := q; exact ⟨q0, q1, qP, qK.call, qD⟩, va_recv hK hP (ci := 2) rfl (q0 := 0) rfl, fun U hU hW => ⟨rfl, by rw [hU], by rw [hU]; exact hPc, hKN.warm hW, hDc.weaken (fun _ _ _ _ => trivial)⟩⟩ rfl rfl hl.1 rfl (lv_room (Nat.le_of_ble_eq_true rfl)) d_St_writeTable_50 ⟨Nat.zero_le _, Nat.zero_le _⟩) hS (fun q _ h => hFc q h) hFc (fun r u t H1 locs zt zvm zw zB zz zk hS => ?_)
        obtain ⟨M_3, dn_3, lf_3⟩ := u
        obtain ⟨b_3, rfl, hu_3⟩ := zw
        obtain ⟨hP1, hD1⟩ := zB
        rw [zt] at hP1
        have hP1 : va_P (dC, dI) classes [(hs, .inr (2, [.ref hw, .int (nI bl), .int dn_3, .int lf_3])), (hw, .inl (cI, 40, .inl M_3))] H1 := hP1
        obtain ⟨hP, hD⟩ := va_join (wc := [(hs, .inr (2, [.ref hw, .int (nI bl), .int dn, .int lf])), (hw, .inl (cI, 40, .inl M))]) (wr := []) (w1 := [(hs, .inr (2, [.ref hw, .int (nI bl), .int dn_3, .int lf_3])), (hw, .inl (cI, 40, .inl M_3))]) hP hD [0, 1] [] rfl rfl (by decide) (by decide) zk hFc hP1 hD1
        generalize H1 = H at hP hS ⊢
        have hP : va_P (dC, dI) classes [(hs, .inr (2, [.ref hw, .int (nI bl), .int dn_3, .int lf_3])), (hw, .inl (cI, 40, .inl M_3))] H := hP.sub [0, 1] rfl
        have hD : va_D A [(hs, .inr (2, [.ref hw, .int (nI bl), .int dn_3, .int lf_3])), (hw, .inl (cI, 40, .inl M_3))] := hD.sub [0, 1] (by decide) rfl
        clear hPc hDc hFc hP1 hD1 zk zz zvm zt
        refine bz_eq (tgt := 90) hx hb d_St_writeTable_53 (by decide) (fun h_4 => ?_) (fun h_4 => ?_)
        · subst h_4
          refine lv_iconst (v := (nI 0)) hx hb d_St_writeTable_90 (by decide) ?_
          exact W.zret (v := (bI false)) hx hb hr (bI_narrow _) (fun t ht hW => ⟨⟨_, (M_3, dn_3, lf_3), rfl, ⟨false, rfl, (by simp only [pTab, srlC_m hc, plcN_m hc, tab3, sq, Nat.reduceAdd, hu_3])⟩, by rw [ht]; exact hP, hD⟩, hS.F ht⟩) hS.2.2 d_St_writeTable_91
        · subst h_4
          refine lv_aload_n hx hb d_St_writeTable_56 rfl (lv_at hl 4 rfl) ?_
          refine lv_iload hx hb d_St_writeTable_57 (lv_at hl 1 rfl) ?_
          refine lv_iconst (v := (nI 1)) hx hb d_St_writeTable_59 (by decide) ?_
          refine lv_iadd hx hb d_St_writeTable_60 ?_
          refine tp (y := (nI 35)) (by decide) ?_
          refine lv_iload hx hb d_St_writeTable_61 (lv_at hl 0 rfl) ?_
          have hPc := hP.sub (ws' := [(hs, .inr (2, [.ref hw, .int (nI bl), .int dn_3, .int lf_3])), (hw, .inl (cI, 40, .inl M_3))]) [0, 1] rfl
          have hDc := hD.sub (ws' := [(hs, .inr (2, [.ref hw, .int (nI bl), .int dn_3, .int lf_3])), (hw, .inl (cI, 40, .inl M_3))]) [0, 1] (by decide) rfl
          have hFc := va_free (wc := [(hs, .inr (2, [.ref hw, .int (nI bl), .int dn_3, .int lf_3])), (hw, .inl (cI, 40, .inl M_3))]) hD hS hA [0, 1] rfl
          refine va_calli (va_runV (As := [.int (nI 35), .int (en &&& (nI 31))]) (rest := []) ⟨hx, hb, hml, hown, hts⟩ (c_St_put l dC dI cI (hs := hs) (k := 35) (x := en &&& (nI 31)) (hw := hw) (bl := bl) (dn := dn_3) (lf := lf_3) (M := M_3) (hk := (by omega)) (sz := H.size)) ⟨callB_of 2 hts (gd kw_278) rfl rfl rfl (hts _ kw_39) (hts _ kw_275) (by decide +kernel) ⟨Nat.le_of_ble_eq_true rfl, Nat.le_of_ble_eq_true rfl⟩, (hts _ kw_277), (hts _ kw_7)⟩ ⟨fun a U g mk q => by obtain ⟨q0, q1, qP, qK, qD⟩ := q; exact ⟨q0, q1, qP, qK.call, qD⟩, va_recv hK hP (ci := 2) rfl (q0 := 0) rfl, fun U hU hW => ⟨rfl, by rw [hU], by rw [hU]; exact hPc, hKN.warm hW, hDc.weaken (fun _ _ _ _ => trivial)⟩⟩ rfl rfl hl.1 rfl (lv_room (Nat.le_of_ble_eq_true rfl)) d_St_writeTable_63 ⟨Nat.zero_le _, Nat.zero_le _⟩) hS (fun q _ h => hFc q h) hFc (fun r u t H1 locs zt zvm zw zB zz zk hS => ?_)
          obtain ⟨M_5, dn_5, lf_5⟩ := u
          obtain ⟨b_5, rfl, hu_5⟩ := zw
          obtain ⟨hP1, hD1⟩ := zB
          rw [zt] at hP1
          have hP1 : va_P (dC, dI) classes [(hs, .inr (2, [.ref hw, .int (nI bl), .int dn_5, .int lf_5])), (hw, .inl (cI, 40, .inl M_5))] H1 := hP1
          obtain ⟨hP, hD⟩ := va_join (wc := [(hs, .inr (2, [.ref hw, .int (nI bl), .int dn_3, .int lf_3])), (hw, .inl (cI, 40, .inl M_3))]) (wr := []) (w1 := [(hs, .inr (2, [.ref hw, .int (nI bl), .int dn_5, .int lf_5])), (hw, .inl (cI, 40, .inl M_5))]) hP hD [0, 1] [] rfl rfl (by decide) (by decide) zk hFc hP1 hD1
          generalize H1 = H at hP hS ⊢
          have hP : va_P (dC, dI) classes [(hs, .inr (2, [.ref hw, .int (nI bl), .int dn_5, .int lf_5])), (hw, .inl (cI, 40, .inl M_5))] H := hP.sub [0, 1] rfl
          have hD : va_D A [(hs, .inr (2, [.ref hw, .int (nI bl), .int dn_5, .int lf_5])), (hw, .inl (cI, 40, .inl M_5))] := hD.sub [0, 1] (by decide) rfl
          clear hPc hDc hFc hP1 hD1 zk zz zvm zt
          refine bz_eq (tgt := 90) hx hb d_St_writeTable_66 (by decide) (fun h_6 => ?_) (fun h_6 => ?_)
          · subst h_6
            refine lv_iconst (v := (nI 0)) hx hb d_St_writeTable_90 (by decide) ?_
            exact W.zret (v := (bI false)) hx hb hr (bI_narrow _) (fun t ht hW => ⟨⟨_, (M_5, dn_5, lf_5), rfl, ⟨false, rfl, (by simp only [pTab, srlC_m hc, plcN_m hc, tab3, sq, Nat.reduceAdd, hu_3, hu_5])⟩, by rw [ht]; exact hP, hD⟩, hS.F ht⟩) hS.2.2 d_St_writeTable_91
          · subst h_6
            refine lv_aload_n hx hb d_St_writeTable_69 rfl (lv_at hl 4 rfl) ?_
            refine lv_iload hx hb d_St_writeTable_70 (lv_at hl 1 rfl) ?_
            refine lv_iconst (v := (nI 2)) hx hb d_St_writeTable_72 (by decide) ?_
            refine lv_iadd hx hb d_St_writeTable_73 ?_
            refine tp (y := (nI 36)) (by decide) ?_
            refine lv_iload_n hx hb d_St_writeTable_74 rfl (lv_at hl 2 rfl) ?_
            refine lv_iload hx hb d_St_writeTable_75 (lv_at hl 0 rfl) ?_
            refine pr_call (va_runS (As := [.int (nI 1), .int (en &&& (nI 31))]) (rest := [.int (nI 36), .ref hs]) ⟨hx, hb, hml, hown, hts⟩ (c_St_check l dC dI cI (a := (nI 1)) (b := en &&& (nI 31)) ) ⟨callB_of 2 hts (gd kw_123) rfl rfl rfl (hts _ kw_39) (hts _ kw_121) (by decide +kernel) ⟨Nat.le_of_ble_eq_true rfl, Nat.le_of_ble_eq_true rfl⟩, (hts _ kw_122)⟩ ⟨fun a U g mk q => by obtain ⟨q0, qP, qK⟩ := q; exact ⟨q0, qP, qK.call⟩, fun U hU hW => ⟨rfl, by rw [hU]; exact hP.sub [] rfl, hKN.warm hW⟩⟩ rfl rfl hl.1 rfl (lv_room (Nat.le_of_ble_eq_true rfl)) d_St_writeTable_77 ⟨Nat.zero_le _, Nat.zero_le _⟩) ?_
            have hPc := hP.sub (ws' := [(hs, .inr (2, [.ref hw, .int (nI bl), .int dn_5, .int lf_5])), (hw, .inl (cI, 40, .inl M_5))]) [0, 1] rfl
            have hDc := hD.sub (ws' := [(hs, .inr (2, [.ref hw, .int (nI bl), .int dn_5, .int lf_5])), (hw, .inl (cI, 40, .inl M_5))]) [0, 1] (by decide) rfl
            have hFc := va_free (wc := [(hs, .inr (2, [.ref hw, .int (nI bl), .int dn_5, .int lf_5])), (hw, .inl (cI, 40, .inl M_5))]) hD hS hA [0, 1] rfl
            refine va_calli (va_runV (As := [.int (nI 36), .int (ck (nI 1) (en &&& (nI 31)))]) (rest := []) ⟨hx, hb, hml, hown, hts⟩ (c_St_put l dC dI cI (hs := hs) (k := 36) (x := ck (nI 1) (en &&& (nI 31))) (hw := hw) (bl := bl) (dn := dn_5) (lf := lf_5) (M := M_5) (hk := (by omega)) (sz := H.size)) ⟨callB_of 2 hts (gd kw_278) rfl rfl rfl (hts _ kw_39) (hts _ kw_275) (by decide +kernel) ⟨Nat.le_of_ble_eq_true rfl, Nat.le_of_ble_eq_true rfl⟩, (hts _ kw_277), (hts _ kw_7)⟩ ⟨fun a U g mk q => by obtain ⟨q0, q1, qP, qK, qD⟩ := q; exact ⟨q0, q1, qP, qK.call, qD⟩, va_recv hK hP (ci := 2) rfl (q0 := 0) rfl, fun U hU hW => ⟨rfl, by rw [hU], by rw [hU]; exact hPc, hKN.warm hW, hDc.weaken (fun _ _ _ _ => trivial)⟩⟩ rfl rfl hl.1 rfl (lv_room (Nat.le_of_ble_eq_true rfl)) d_St_writeTable_80 ⟨Nat.zero_le _, Nat.zero_le _⟩) hS (fun q _ h => hFc q h) hFc (fun r u t H1 locs zt zvm zw zB zz zk hS => ?_)
            obtain ⟨M_7, dn_7, lf_7⟩ := u
            obtain ⟨b_7, rfl, hu_7⟩ := zw
            obtain ⟨hP1, hD1⟩ := zB
            rw [zt] at hP1
            have hP1 : va_P (dC, dI) classes [(hs, .inr (2, [.ref hw, .int (nI bl), .int dn_7, .int lf_7])), (hw, .inl (cI, 40, .inl M_7))] H1 := hP1
            obtain ⟨hP, hD⟩ := va_join (wc := [(hs, .inr (2, [.ref hw, .int (nI bl), .int dn_5, .int lf_5])), (hw, .inl (cI, 40, .inl M_5))]) (wr := []) (w1 := [(hs, .inr (2, [.ref hw, .int (nI bl), .int dn_7, .int lf_7])), (hw, .inl (cI, 40, .inl M_7))]) hP hD [0, 1] [] rfl rfl (by decide) (by decide) zk hFc hP1 hD1
            generalize H1 = H at hP hS ⊢
            have hP : va_P (dC, dI) classes [(hs, .inr (2, [.ref hw, .int (nI bl), .int dn_7, .int lf_7])), (hw, .inl (cI, 40, .inl M_7))] H := hP.sub [0, 1] rfl
            have hD : va_D A [(hs, .inr (2, [.ref hw, .int (nI bl), .int dn_7, .int lf_7])), (hw, .inl (cI, 40, .inl M_7))] := hD.sub [0, 1] (by decide) rfl
            clear hPc hDc hFc hP1 hD1 zk zz zvm zt
            refine bz_eq (tgt := 90) hx hb d_St_writeTable_83 (by decide) (fun h_8 => ?_) (fun h_8 => ?_)
            · subst h_8
              refine lv_iconst (v := (nI 0)) hx hb d_St_writeTable_90 (by decide) ?_
              exact W.zret (v := (bI false)) hx hb hr (bI_narrow _) (fun t ht hW => ⟨⟨_, (M_7, dn_7, lf_7), rfl, ⟨false, rfl, (by simp only [pTab, srlC_m hc, plcN_m hc, tab3, sq, Nat.reduceAdd, hu_3, hu_5, hu_7])⟩, by rw [ht]; exact hP, hD⟩, hS.F ht⟩) hS.2.2 d_St_writeTable_91
            · subst h_8
              refine lv_iconst (v := (nI 1)) hx hb d_St_writeTable_86 (by decide) ?_
              refine lv_goto (tgt := 91) hx hb d_St_writeTable_87 (by decide) ?_
              exact W.zret (v := (bI true)) hx hb hr (bI_narrow _) (fun t ht hW => ⟨⟨_, (M_7, dn_7, lf_7), rfl, ⟨true, rfl, (by simp only [pTab, srlC_m hc, plcN_m hc, tab3, sq, Nat.reduceAdd, hu_3, hu_5, hu_7])⟩, by rw [ht]; exact hP, hD⟩, hS.F ht⟩) hS.2.2 d_St_writeTable_91
      · exact absurd h_2 (by decide)
  · refine tp hc ?_
    refine lv_istore_n (lv' := [(2, .int (nI 0)), (0, .ref hs), (1, .int en)]) hx hb d_St_writeTable_4 rfl hl (by decide) rfl (fun ls hl => ?_)
    refine lv_iload_n hx hb d_St_writeTable_5 rfl (lv_at hl 0 rfl) ?_
    refine lv_iconst (v := (-1)) hx hb d_St_writeTable_6 (by decide) ?_
    refine lv_icmp_ne (tgt := 14) hx hb d_St_writeTable_7 (by decide) (fun h_9 => ?_) (fun h_9 => ?_)
    · refine lv_aload_n hx hb d_St_writeTable_14 rfl (lv_at hl 1 rfl) ?_
      refine va_get (D := (dC, dI)) (ci := 2) (v := .ref hw) (C := R_St) (T := F_St) (N := 4) hx hb hts in_St hown hK hP 0 rfl rfl 0 (by decide) (hts _ kw_125) (fun _ h9 => h9) rfl d_St_writeTable_15 ?_
      refine lv_iload_n hx hb d_St_writeTable_18 rfl (lv_at hl 0 rfl) ?_
      refine pr_call (va_runS (As := [.int (nI 0)]) (rest := [.ref hw]) ⟨hx, hb, hml, hown, hts⟩ (c_St_recordPlace l dC dI cI (k := 0) ) ⟨callB_of 1 hts (gd kw_254) rfl rfl rfl (hts _ kw_39) (hts _ kw_252) (by decide +kernel) ⟨Nat.le_of_ble_eq_true rfl, Nat.le_of_ble_eq_true rfl⟩, (hts _ kw_253)⟩ ⟨fun a U g mk q => by obtain ⟨q0, qP, qK⟩ := q; exact ⟨q0, qP, qK.call⟩, fun U hU hW => ⟨rfl, by rw [hU]; exact hP.sub [] rfl, hKN.warm hW⟩⟩ rfl rfl hl.1 rfl (lv_room (Nat.le_of_ble_eq_true rfl)) d_St_writeTable_19 ⟨Nat.zero_le _, Nat.zero_le _⟩) ?_
      refine tp (y := (nI 34)) (by decide) ?_
      refine ar_ld (k := 34) hx hb hK hP 1 0 rfl rfl (by omega) (by first | decide | omega) d_St_writeTable_22 ?_
      refine lv_iconst (v := (nI 1)) hx hb d_St_writeTable_23 (by decide) ?_
      refine lv_iadd hx hb d_St_writeTable_24 ?_
      refine lv_istore_n (lv' := [(3, .int ((M 34) + (nI 1))), (2, .int (nI 0)), (0, .ref hs), (1, .int en)]) hx hb d_St_writeTable_25 rfl hl (by decide) rfl (fun ls hl => ?_)
      refine lv_iload_n hx hb d_St_writeTable_26 rfl (lv_at hl 1 rfl) ?_
      refine nz_ne (tgt := 34) hx hb d_St_writeTable_27 (by decide) (by decide) (fun h_10 => ?_) (fun h_10 => ?_)
      · exact absurd h_10 (by decide)
      · refine lv_iconst (v := (nI 1)) hx hb d_St_writeTable_30 (by decide) ?_
        refine lv_goto (tgt := 35) hx hb d_St_writeTable_31 (by decide) ?_
        refine pr_call (va_runS (As := [.int (nI 1)]) (rest := []) ⟨hx, hb, hml, hown, hts⟩ (c_St_recordPlace l dC dI cI (k := 1) ) ⟨callB_of 1 hts (gd kw_254) rfl rfl rfl (hts _ kw_39) (hts _ kw_252) (by decide +kernel) ⟨Nat.le_of_ble_eq_true rfl, Nat.le_of_ble_eq_true rfl⟩, (hts _ kw_253)⟩ ⟨fun a U g mk q => by obtain ⟨q0, qP, qK⟩ := q; exact ⟨q0, qP, qK.call⟩, fun U hU hW => ⟨rfl, by rw [hU]; exact hP.sub [] rfl, hKN.warm hW⟩⟩ rfl rfl hl.1 rfl (lv_room (Nat.le_of_ble_eq_true rfl)) d_St_writeTable_35 ⟨Nat.zero_le _, Nat.zero_le _⟩) ?_
        refine tp (y := (nI 37)) (by decide) ?_
        refine lv_istore (lv' := [(4, .int (nI 37)), (3, .int ((M 34) + (nI 1))), (2, .int (nI 0)), (0, .ref hs), (1, .int en)]) hx hb d_St_writeTable_38 hl (by decide) rfl (fun ls hl => ?_)
        refine lv_iload_n hx hb d_St_writeTable_40 rfl (lv_at hl 4 rfl) ?_
        refine lv_bipush (v := (nI 31)) hx hb d_St_writeTable_41 (by decide) ?_
        refine lv_iand hx hb d_St_writeTable_43 ?_
        refine lv_istore (lv' := [(5, .int (en &&& (nI 31))), (4, .int (nI 37)), (3, .int ((M 34) + (nI 1))), (2, .int (nI 0)), (0, .ref hs), (1, .int en)]) hx hb d_St_writeTable_44 hl (by decide) rfl (fun ls hl => ?_)
        refine lv_aload_n hx hb d_St_writeTable_46 rfl (lv_at hl 4 rfl) ?_
        refine lv_iload hx hb d_St_writeTable_47 (lv_at hl 1 rfl) ?_
        refine lv_iload_n hx hb d_St_writeTable_49 rfl (lv_at hl 2 rfl) ?_
        have hPc := hP.sub (ws' := [(hs, .inr (2, [.ref hw, .int (nI bl), .int dn, .int lf])), (hw, .inl (cI, 40, .inl M))]) [0, 1] rfl
        have hDc := hD.sub (ws' := [(hs, .inr (2, [.ref hw, .int (nI bl), .int dn, .int lf])), (hw, .inl (cI, 40, .inl M))]) [0, 1] (by decide) rfl
        have hFc := va_free (wc := [(hs, .inr (2, [.ref hw, .int (nI bl), .int dn, .int lf])), (hw, .inl (cI, 40, .inl M))]) hD hS hA [0, 1] rfl
        refine va_calli (va_runV (As := [.int (nI 37), .int ((M 34) + (nI 1))]) (rest := []) ⟨hx, hb, hml, hown, hts⟩ (c_St_put l dC dI cI (hs := hs) (k := 37) (x := (M 34) + (nI 1)) (hw := hw) (bl := bl) (dn := dn) (lf := lf) (M := M) (hk := (by omega)) (sz := s.heap.size)) ⟨callB_of 2 hts (gd kw_278) rfl rfl rfl (hts _ kw_39) (hts _ kw_275) (by decide +kernel) ⟨Nat.le_of_ble_eq_true rfl, Nat.le_of_ble_eq_true rfl⟩, (hts _ kw_277), (hts _ kw_7)⟩ ⟨fun a U g mk q => by obtain ⟨q0, q1, qP, qK, qD⟩ := q; exact ⟨q0, q1, qP, qK.call, qD⟩, va_recv hK hP (ci := 2) rfl (q0 := 0) rfl, fun U hU hW => ⟨rfl, by rw [hU], by rw [hU]; exact hPc, hKN.warm hW, hDc.weaken (fun _ _ _ _ => trivial)⟩⟩ rfl rfl hl.1 rfl (lv_room (Nat.le_of_ble_eq_true rfl)) d_St_writeTable_50 ⟨Nat.zero_le _, Nat.zero_le _⟩) hS (fun q _ h => hFc q h) hFc (fun r u t H1 locs zt zvm zw zB zz zk hS => ?_)
        obtain ⟨M_11, dn_11, lf_11⟩ := u
        obtain ⟨b_11, rfl, hu_11⟩ := zw
        obtain ⟨hP1, hD1⟩ := zB
        rw [zt] at hP1
        have hP1 : va_P (dC, dI) classes [(hs, .inr (2, [.ref hw, .int (nI bl), .int dn_11, .int lf_11])), (hw, .inl (cI, 40, .inl M_11))] H1 := hP1
        obtain ⟨hP, hD⟩ := va_join (wc := [(hs, .inr (2, [.ref hw, .int (nI bl), .int dn, .int lf])), (hw, .inl (cI, 40, .inl M))]) (wr := []) (w1 := [(hs, .inr (2, [.ref hw, .int (nI bl), .int dn_11, .int lf_11])), (hw, .inl (cI, 40, .inl M_11))]) hP hD [0, 1] [] rfl rfl (by decide) (by decide) zk hFc hP1 hD1
        generalize H1 = H at hP hS ⊢
        have hP : va_P (dC, dI) classes [(hs, .inr (2, [.ref hw, .int (nI bl), .int dn_11, .int lf_11])), (hw, .inl (cI, 40, .inl M_11))] H := hP.sub [0, 1] rfl
        have hD : va_D A [(hs, .inr (2, [.ref hw, .int (nI bl), .int dn_11, .int lf_11])), (hw, .inl (cI, 40, .inl M_11))] := hD.sub [0, 1] (by decide) rfl
        clear hPc hDc hFc hP1 hD1 zk zz zvm zt
        refine bz_eq (tgt := 90) hx hb d_St_writeTable_53 (by decide) (fun h_12 => ?_) (fun h_12 => ?_)
        · subst h_12
          refine lv_iconst (v := (nI 0)) hx hb d_St_writeTable_90 (by decide) ?_
          exact W.zret (v := (bI false)) hx hb hr (bI_narrow _) (fun t ht hW => ⟨⟨_, (M_11, dn_11, lf_11), rfl, ⟨false, rfl, (by simp only [pTab, srlC_0 hc, plcN_0 hc, tab3, sq, Nat.reduceAdd, hu_11])⟩, by rw [ht]; exact hP, hD⟩, hS.F ht⟩) hS.2.2 d_St_writeTable_91
        · subst h_12
          refine lv_aload_n hx hb d_St_writeTable_56 rfl (lv_at hl 4 rfl) ?_
          refine lv_iload hx hb d_St_writeTable_57 (lv_at hl 1 rfl) ?_
          refine lv_iconst (v := (nI 1)) hx hb d_St_writeTable_59 (by decide) ?_
          refine lv_iadd hx hb d_St_writeTable_60 ?_
          refine tp (y := (nI 38)) (by decide) ?_
          refine lv_iload hx hb d_St_writeTable_61 (lv_at hl 0 rfl) ?_
          have hPc := hP.sub (ws' := [(hs, .inr (2, [.ref hw, .int (nI bl), .int dn_11, .int lf_11])), (hw, .inl (cI, 40, .inl M_11))]) [0, 1] rfl
          have hDc := hD.sub (ws' := [(hs, .inr (2, [.ref hw, .int (nI bl), .int dn_11, .int lf_11])), (hw, .inl (cI, 40, .inl M_11))]) [0, 1] (by decide) rfl
          have hFc := va_free (wc := [(hs, .inr (2, [.ref hw, .int (nI bl), .int dn_11, .int lf_11])), (hw, .inl (cI, 40, .inl M_11))]) hD hS hA [0, 1] rfl
          refine va_calli (va_runV (As := [.int (nI 38), .int (en &&& (nI 31))]) (rest := []) ⟨hx, hb, hml, hown, hts⟩ (c_St_put l dC dI cI (hs := hs) (k := 38) (x := en &&& (nI 31)) (hw := hw) (bl := bl) (dn := dn_11) (lf := lf_11) (M := M_11) (hk := (by omega)) (sz := H.size)) ⟨callB_of 2 hts (gd kw_278) rfl rfl rfl (hts _ kw_39) (hts _ kw_275) (by decide +kernel) ⟨Nat.le_of_ble_eq_true rfl, Nat.le_of_ble_eq_true rfl⟩, (hts _ kw_277), (hts _ kw_7)⟩ ⟨fun a U g mk q => by obtain ⟨q0, q1, qP, qK, qD⟩ := q; exact ⟨q0, q1, qP, qK.call, qD⟩, va_recv hK hP (ci := 2) rfl (q0 := 0) rfl, fun U hU hW => ⟨rfl, by rw [hU], by rw [hU]; exact hPc, hKN.warm hW, hDc.weaken (fun _ _ _ _ => trivial)⟩⟩ rfl rfl hl.1 rfl (lv_room (Nat.le_of_ble_eq_true rfl)) d_St_writeTable_63 ⟨Nat.zero_le _, Nat.zero_le _⟩) hS (fun q _ h => hFc q h) hFc (fun r u t H1 locs zt zvm zw zB zz zk hS => ?_)
          obtain ⟨M_13, dn_13, lf_13⟩ := u
          obtain ⟨b_13, rfl, hu_13⟩ := zw
          obtain ⟨hP1, hD1⟩ := zB
          rw [zt] at hP1
          have hP1 : va_P (dC, dI) classes [(hs, .inr (2, [.ref hw, .int (nI bl), .int dn_13, .int lf_13])), (hw, .inl (cI, 40, .inl M_13))] H1 := hP1
          obtain ⟨hP, hD⟩ := va_join (wc := [(hs, .inr (2, [.ref hw, .int (nI bl), .int dn_11, .int lf_11])), (hw, .inl (cI, 40, .inl M_11))]) (wr := []) (w1 := [(hs, .inr (2, [.ref hw, .int (nI bl), .int dn_13, .int lf_13])), (hw, .inl (cI, 40, .inl M_13))]) hP hD [0, 1] [] rfl rfl (by decide) (by decide) zk hFc hP1 hD1
          generalize H1 = H at hP hS ⊢
          have hP : va_P (dC, dI) classes [(hs, .inr (2, [.ref hw, .int (nI bl), .int dn_13, .int lf_13])), (hw, .inl (cI, 40, .inl M_13))] H := hP.sub [0, 1] rfl
          have hD : va_D A [(hs, .inr (2, [.ref hw, .int (nI bl), .int dn_13, .int lf_13])), (hw, .inl (cI, 40, .inl M_13))] := hD.sub [0, 1] (by decide) rfl
          clear hPc hDc hFc hP1 hD1 zk zz zvm zt
          refine bz_eq (tgt := 90) hx hb d_St_writeTable_66 (by decide) (fun h_14 => ?_) (fun h_14 => ?_)
          · subst h_14
            refine lv_iconst (v := (nI 0)) hx hb d_St_writeTable_90 (by decide) ?_
            exact W.zret (v := (bI false)) hx hb hr (bI_narrow _) (fun t ht hW => ⟨⟨_, (M_13, dn_13, lf_13), rfl, ⟨false, rfl, (by simp only [pTab, srlC_0 hc, plcN_0 hc, tab3, sq, Nat.reduceAdd, hu_11, hu_13])⟩, by rw [ht]; exact hP, hD⟩, hS.F ht⟩) hS.2.2 d_St_writeTable_91
          · subst h_14
            refine lv_aload_n hx hb d_St_writeTable_69 rfl (lv_at hl 4 rfl) ?_
            refine lv_iload hx hb d_St_writeTable_70 (lv_at hl 1 rfl) ?_
            refine lv_iconst (v := (nI 2)) hx hb d_St_writeTable_72 (by decide) ?_
            refine lv_iadd hx hb d_St_writeTable_73 ?_
            refine tp (y := (nI 39)) (by decide) ?_
            refine lv_iload_n hx hb d_St_writeTable_74 rfl (lv_at hl 2 rfl) ?_
            refine lv_iload hx hb d_St_writeTable_75 (lv_at hl 0 rfl) ?_
            refine pr_call (va_runS (As := [.int ((M 34) + (nI 1)), .int (en &&& (nI 31))]) (rest := [.int (nI 39), .ref hs]) ⟨hx, hb, hml, hown, hts⟩ (c_St_check l dC dI cI (a := (M 34) + (nI 1)) (b := en &&& (nI 31)) ) ⟨callB_of 2 hts (gd kw_123) rfl rfl rfl (hts _ kw_39) (hts _ kw_121) (by decide +kernel) ⟨Nat.le_of_ble_eq_true rfl, Nat.le_of_ble_eq_true rfl⟩, (hts _ kw_122)⟩ ⟨fun a U g mk q => by obtain ⟨q0, qP, qK⟩ := q; exact ⟨q0, qP, qK.call⟩, fun U hU hW => ⟨rfl, by rw [hU]; exact hP.sub [] rfl, hKN.warm hW⟩⟩ rfl rfl hl.1 rfl (lv_room (Nat.le_of_ble_eq_true rfl)) d_St_writeTable_77 ⟨Nat.zero_le _, Nat.zero_le _⟩) ?_
            have hPc := hP.sub (ws' := [(hs, .inr (2, [.ref hw, .int (nI bl), .int dn_13, .int lf_13])), (hw, .inl (cI, 40, .inl M_13))]) [0, 1] rfl
            have hDc := hD.sub (ws' := [(hs, .inr (2, [.ref hw, .int (nI bl), .int dn_13, .int lf_13])), (hw, .inl (cI, 40, .inl M_13))]) [0, 1] (by decide) rfl
            have hFc := va_free (wc := [(hs, .inr (2, [.ref hw, .int (nI bl), .int dn_13, .int lf_13])), (hw, .inl (cI, 40, .inl M_13))]) hD hS hA [0, 1] rfl
            refine va_calli (va_runV (As := [.int (nI 39), .int (ck ((M 34) + (nI 1)) (en &&& (nI 31)))]) (rest := []) ⟨hx, hb, hml, hown, hts⟩ (c_St_put l dC dI cI (hs := hs) (k := 39) (x := ck ((M 34) + (nI 1)) (en &&& (nI 31))) (hw := hw) (bl := bl) (dn := dn_13) (lf := lf_13) (M := M_13) (hk := (by omega)) (sz := H.size)) ⟨callB_of 2 hts (gd kw_278) rfl rfl rfl (hts _ kw_39) (hts _ kw_275) (by decide +kernel) ⟨Nat.le_of_ble_eq_true rfl, Nat.le_of_ble_eq_true rfl⟩, (hts _ kw_277), (hts _ kw_7)⟩ ⟨fun a U g mk q => by obtain ⟨q0, q1, qP, qK, qD⟩ := q; exact ⟨q0, q1, qP, qK.call, qD⟩, va_recv hK hP (ci := 2) rfl (q0 := 0) rfl, fun U hU hW => ⟨rfl, by rw [hU], by rw [hU]; exact hPc, hKN.warm hW, hDc.weaken (fun _ _ _ _ => trivial)⟩⟩ rfl rfl hl.1 rfl (lv_room (Nat.le_of_ble_eq_true rfl)) d_St_writeTable_80 ⟨Nat.zero_le _, Nat.zero_le _⟩) hS (fun q _ h => hFc q h) hFc (fun r u t H1 locs zt zvm zw zB zz zk hS => ?_)
            obtain ⟨M_15, dn_15, lf_15⟩ := u
            obtain ⟨b_15, rfl, hu_15⟩ := zw
            obtain ⟨hP1, hD1⟩ := zB
            rw [zt] at hP1
            have hP1 : va_P (dC, dI) classes [(hs, .inr (2, [.ref hw, .int (nI bl), .int dn_15, .int lf_15])), (hw, .inl (cI, 40, .inl M_15))] H1 := hP1
            obtain ⟨hP, hD⟩ := va_join (wc := [(hs, .inr (2, [.ref hw, .int (nI bl), .int dn_13, .int lf_13])), (hw, .inl (cI, 40, .inl M_13))]) (wr := []) (w1 := [(hs, .inr (2, [.ref hw, .int (nI bl), .int dn_15, .int lf_15])), (hw, .inl (cI, 40, .inl M_15))]) hP hD [0, 1] [] rfl rfl (by decide) (by decide) zk hFc hP1 hD1
            generalize H1 = H at hP hS ⊢
            have hP : va_P (dC, dI) classes [(hs, .inr (2, [.ref hw, .int (nI bl), .int dn_15, .int lf_15])), (hw, .inl (cI, 40, .inl M_15))] H := hP.sub [0, 1] rfl
            have hD : va_D A [(hs, .inr (2, [.ref hw, .int (nI bl), .int dn_15, .int lf_15])), (hw, .inl (cI, 40, .inl M_15))] := hD.sub [0, 1] (by decide) rfl
            clear hPc hDc hFc hP1 hD1 zk zz zvm zt
            refine bz_eq (tgt := 90) hx hb d_St_writeTable_83 (by decide) (fun h_16 => ?_) (fun h_16 => ?_)
            · subst h_16
              refine lv_iconst (v := (nI 0)) hx hb d_St_writeTable_90 (by decide) ?_
              exact W.zret (v := (bI false)) hx hb hr (bI_narrow _) (fun t ht hW => ⟨⟨_, (M_15, dn_15, lf_15), rfl, ⟨false, rfl, (by simp only [pTab, srlC_0 hc, plcN_0 hc, tab3, sq, Nat.reduceAdd, hu_11, hu_13, hu_15])⟩, by rw [ht]; exact hP, hD⟩, hS.F ht⟩) hS.2.2 d_St_writeTable_91
            · subst h_16
              refine lv_iconst (v := (nI 1)) hx hb d_St_writeTable_86 (by decide) ?_
              refine lv_goto (tgt := 91) hx hb d_St_writeTable_87 (by decide) ?_
              exact W.zret (v := (bI true)) hx hb hr (bI_narrow _) (fun t ht hW => ⟨⟨_, (M_15, dn_15, lf_15), rfl, ⟨true, rfl, (by simp only [pTab, srlC_0 hc, plcN_0 hc, tab3, sq, Nat.reduceAdd, hu_11, hu_13, hu_15])⟩, by rw [ht]; exact hP, hD⟩, hS.F ht⟩) hS.2.2 d_St_writeTable_91
    · exact absurd h_9 (by decide)
  · refine tp hc ?_
    refine lv_istore_n (lv' := [(2, .int (nI 1)), (0, .ref hs), (1, .int en)]) hx hb d_St_writeTable_4 rfl hl (by decide) rfl (fun ls hl => ?_)
    refine lv_iload_n hx hb d_St_writeTable_5 rfl (lv_at hl 0 rfl) ?_
    refine lv_iconst (v := (-1)) hx hb d_St_writeTable_6 (by decide) ?_
    refine lv_icmp_ne (tgt := 14) hx hb d_St_writeTable_7 (by decide) (fun h_17 => ?_) (fun h_17 => ?_)
    · refine lv_aload_n hx hb d_St_writeTable_14 rfl (lv_at hl 1 rfl) ?_
      refine va_get (D := (dC, dI)) (ci := 2) (v := .ref hw) (C := R_St) (T := F_St) (N := 4) hx hb hts in_St hown hK hP 0 rfl rfl 0 (by decide) (hts _ kw_125) (fun _ h9 => h9) rfl d_St_writeTable_15 ?_
      refine lv_iload_n hx hb d_St_writeTable_18 rfl (lv_at hl 0 rfl) ?_
      refine pr_call (va_runS (As := [.int (nI 1)]) (rest := [.ref hw]) ⟨hx, hb, hml, hown, hts⟩ (c_St_recordPlace l dC dI cI (k := 1) ) ⟨callB_of 1 hts (gd kw_254) rfl rfl rfl (hts _ kw_39) (hts _ kw_252) (by decide +kernel) ⟨Nat.le_of_ble_eq_true rfl, Nat.le_of_ble_eq_true rfl⟩, (hts _ kw_253)⟩ ⟨fun a U g mk q => by obtain ⟨q0, qP, qK⟩ := q; exact ⟨q0, qP, qK.call⟩, fun U hU hW => ⟨rfl, by rw [hU]; exact hP.sub [] rfl, hKN.warm hW⟩⟩ rfl rfl hl.1 rfl (lv_room (Nat.le_of_ble_eq_true rfl)) d_St_writeTable_19 ⟨Nat.zero_le _, Nat.zero_le _⟩) ?_
      refine tp (y := (nI 37)) (by decide) ?_
      refine ar_ld (k := 37) hx hb hK hP 1 0 rfl rfl (by omega) (by first | decide | omega) d_St_writeTable_22 ?_
      refine lv_iconst (v := (nI 1)) hx hb d_St_writeTable_23 (by decide) ?_
      refine lv_iadd hx hb d_St_writeTable_24 ?_
      refine lv_istore_n (lv' := [(3, .int ((M 37) + (nI 1))), (2, .int (nI 1)), (0, .ref hs), (1, .int en)]) hx hb d_St_writeTable_25 rfl hl (by decide) rfl (fun ls hl => ?_)
      refine lv_iload_n hx hb d_St_writeTable_26 rfl (lv_at hl 1 rfl) ?_
      refine nz_ne (tgt := 34) hx hb d_St_writeTable_27 (by decide) (by decide) (fun h_18 => ?_) (fun h_18 => ?_)
      · refine lv_iconst (v := (nI 0)) hx hb d_St_writeTable_34 (by decide) ?_
        refine pr_call (va_runS (As := [.int (nI 0)]) (rest := []) ⟨hx, hb, hml, hown, hts⟩ (c_St_recordPlace l dC dI cI (k := 0) ) ⟨callB_of 1 hts (gd kw_254) rfl rfl rfl (hts _ kw_39) (hts _ kw_252) (by decide +kernel) ⟨Nat.le_of_ble_eq_true rfl, Nat.le_of_ble_eq_true rfl⟩, (hts _ kw_253)⟩ ⟨fun a U g mk q => by obtain ⟨q0, qP, qK⟩ := q; exact ⟨q0, qP, qK.call⟩, fun U hU hW => ⟨rfl, by rw [hU]; exact hP.sub [] rfl, hKN.warm hW⟩⟩ rfl rfl hl.1 rfl (lv_room (Nat.le_of_ble_eq_true rfl)) d_St_writeTable_35 ⟨Nat.zero_le _, Nat.zero_le _⟩) ?_
        refine tp (y := (nI 34)) (by decide) ?_
        refine lv_istore (lv' := [(4, .int (nI 34)), (3, .int ((M 37) + (nI 1))), (2, .int (nI 1)), (0, .ref hs), (1, .int en)]) hx hb d_St_writeTable_38 hl (by decide) rfl (fun ls hl => ?_)
        refine lv_iload_n hx hb d_St_writeTable_40 rfl (lv_at hl 4 rfl) ?_
        refine lv_bipush (v := (nI 31)) hx hb d_St_writeTable_41 (by decide) ?_
        refine lv_iand hx hb d_St_writeTable_43 ?_
        refine lv_istore (lv' := [(5, .int (en &&& (nI 31))), (4, .int (nI 34)), (3, .int ((M 37) + (nI 1))), (2, .int (nI 1)), (0, .ref hs), (1, .int en)]) hx hb d_St_writeTable_44 hl (by decide) rfl (fun ls hl => ?_)
        refine lv_aload_n hx hb d_St_writeTable_46 rfl (lv_at hl 4 rfl) ?_
        refine lv_iload hx hb d_St_writeTable_47 (lv_at hl 1 rfl) ?_
        refine lv_iload_n hx hb d_St_writeTable_49 rfl (lv_at hl 2 rfl) ?_
        have hPc := hP.sub (ws' := [(hs, .inr (2, [.ref hw, .int (nI bl), .int dn, .int lf])), (hw, .inl (cI, 40, .inl M))]) [0, 1] rfl
        have hDc := hD.sub (ws' := [(hs, .inr (2, [.ref hw, .int (nI bl), .int dn, .int lf])), (hw, .inl (cI, 40, .inl M))]) [0, 1] (by decide) rfl
        have hFc := va_free (wc := [(hs, .inr (2, [.ref hw, .int (nI bl), .int dn, .int lf])), (hw, .inl (cI, 40, .inl M))]) hD hS hA [0, 1] rfl
        refine va_calli (va_runV (As := [.int (nI 34), .int ((M 37) + (nI 1))]) (rest := []) ⟨hx, hb, hml, hown, hts⟩ (c_St_put l dC dI cI (hs := hs) (k := 34) (x := (M 37) + (nI 1)) (hw := hw) (bl := bl) (dn := dn) (lf := lf) (M := M) (hk := (by omega)) (sz := s.heap.size)) ⟨callB_of 2 hts (gd kw_278) rfl rfl rfl (hts _ kw_39) (hts _ kw_275) (by decide +kernel) ⟨Nat.le_of_ble_eq_true rfl, Nat.le_of_ble_eq_true rfl⟩, (hts _ kw_277), (hts _ kw_7)⟩ ⟨fun a U g mk q => by obtain ⟨q0, q1, qP, qK, qD⟩ := q; exact ⟨q0, q1, qP, qK.call, qD⟩, va_recv hK hP (ci := 2) rfl (q0 := 0) rfl, fun U hU hW => ⟨rfl, by rw [hU], by rw [hU]; exact hPc, hKN.warm hW, hDc.weaken (fun _ _ _ _ => trivial)⟩⟩ rfl rfl hl.1 rfl (lv_room (Nat.le_of_ble_eq_true rfl)) d_St_writeTable_50 ⟨Nat.zero_le _, Nat.zero_le _⟩) hS (fun q _ h => hFc q h) hFc (fun r u t H1 locs zt zvm zw zB zz zk hS => ?_)
        obtain ⟨M_19, dn_19, lf_19⟩ := u
        obtain ⟨b_19, rfl, hu_19⟩ := zw
        obtain ⟨hP1, hD1⟩ := zB
        rw [zt] at hP1
        have hP1 : va_P (dC, dI) classes [(hs, .inr (2, [.ref hw, .int (nI bl), .int dn_19, .int lf_19])), (hw, .inl (cI, 40, .inl M_19))] H1 := hP1
        obtain ⟨hP, hD⟩ := va_join (wc := [(hs, .inr (2, [.ref hw, .int (nI bl), .int dn, .int lf])), (hw, .inl (cI, 40, .inl M))]) (wr := []) (w1 := [(hs, .inr (2, [.ref hw, .int (nI bl), .int dn_19, .int lf_19])), (hw, .inl (cI, 40, .inl M_19))]) hP hD [0, 1] [] rfl rfl (by decide) (by decide) zk hFc hP1 hD1
        generalize H1 = H at hP hS ⊢
        have hP : va_P (dC, dI) classes [(hs, .inr (2, [.ref hw, .int (nI bl), .int dn_19, .int lf_19])), (hw, .inl (cI, 40, .inl M_19))] H := hP.sub [0, 1] rfl
        have hD : va_D A [(hs, .inr (2, [.ref hw, .int (nI bl), .int dn_19, .int lf_19])), (hw, .inl (cI, 40, .inl M_19))] := hD.sub [0, 1] (by decide) rfl
        clear hPc hDc hFc hP1 hD1 zk zz zvm zt
        refine bz_eq (tgt := 90) hx hb d_St_writeTable_53 (by decide) (fun h_20 => ?_) (fun h_20 => ?_)
        · subst h_20
          refine lv_iconst (v := (nI 0)) hx hb d_St_writeTable_90 (by decide) ?_
          exact W.zret (v := (bI false)) hx hb hr (bI_narrow _) (fun t ht hW => ⟨⟨_, (M_19, dn_19, lf_19), rfl, ⟨false, rfl, (by simp only [pTab, srlC_1 hc, plcN_1 hc, tab3, sq, Nat.reduceAdd, hu_19])⟩, by rw [ht]; exact hP, hD⟩, hS.F ht⟩) hS.2.2 d_St_writeTable_91
        · subst h_20
          refine lv_aload_n hx hb d_St_writeTable_56 rfl (lv_at hl 4 rfl) ?_
          refine lv_iload hx hb d_St_writeTable_57 (lv_at hl 1 rfl) ?_
          refine lv_iconst (v := (nI 1)) hx hb d_St_writeTable_59 (by decide) ?_
          refine lv_iadd hx hb d_St_writeTable_60 ?_
          refine tp (y := (nI 35)) (by decide) ?_
          refine lv_iload hx hb d_St_writeTable_61 (lv_at hl 0 rfl) ?_
          have hPc := hP.sub (ws' := [(hs, .inr (2, [.ref hw, .int (nI bl), .int dn_19, .int lf_19])), (hw, .inl (cI, 40, .inl M_19))]) [0, 1] rfl
          have hDc := hD.sub (ws' := [(hs, .inr (2, [.ref hw, .int (nI bl), .int dn_19, .int lf_19])), (hw, .inl (cI, 40, .inl M_19))]) [0, 1] (by decide) rfl
          have hFc := va_free (wc := [(hs, .inr (2, [.ref hw, .int (nI bl), .int dn_19, .int lf_19])), (hw, .inl (cI, 40, .inl M_19))]) hD hS hA [0, 1] rfl
          refine va_calli (va_runV (As := [.int (nI 35), .int (en &&& (nI 31))]) (rest := []) ⟨hx, hb, hml, hown, hts⟩ (c_St_put l dC dI cI (hs := hs) (k := 35) (x := en &&& (nI 31)) (hw := hw) (bl := bl) (dn := dn_19) (lf := lf_19) (M := M_19) (hk := (by omega)) (sz := H.size)) ⟨callB_of 2 hts (gd kw_278) rfl rfl rfl (hts _ kw_39) (hts _ kw_275) (by decide +kernel) ⟨Nat.le_of_ble_eq_true rfl, Nat.le_of_ble_eq_true rfl⟩, (hts _ kw_277), (hts _ kw_7)⟩ ⟨fun a U g mk q => by obtain ⟨q0, q1, qP, qK, qD⟩ := q; exact ⟨q0, q1, qP, qK.call, qD⟩, va_recv hK hP (ci := 2) rfl (q0 := 0) rfl, fun U hU hW => ⟨rfl, by rw [hU], by rw [hU]; exact hPc, hKN.warm hW, hDc.weaken (fun _ _ _ _ => trivial)⟩⟩ rfl rfl hl.1 rfl (lv_room (Nat.le_of_ble_eq_true rfl)) d_St_writeTable_63 ⟨Nat.zero_le _, Nat.zero_le _⟩) hS (fun q _ h => hFc q h) hFc (fun r u t H1 locs zt zvm zw zB zz zk hS => ?_)
          obtain ⟨M_21, dn_21, lf_21⟩ := u
          obtain ⟨b_21, rfl, hu_21⟩ := zw
          obtain ⟨hP1, hD1⟩ := zB
          rw [zt] at hP1
          have hP1 : va_P (dC, dI) classes [(hs, .inr (2, [.ref hw, .int (nI bl), .int dn_21, .int lf_21])), (hw, .inl (cI, 40, .inl M_21))] H1 := hP1
          obtain ⟨hP, hD⟩ := va_join (wc := [(hs, .inr (2, [.ref hw, .int (nI bl), .int dn_19, .int lf_19])), (hw, .inl (cI, 40, .inl M_19))]) (wr := []) (w1 := [(hs, .inr (2, [.ref hw, .int (nI bl), .int dn_21, .int lf_21])), (hw, .inl (cI, 40, .inl M_21))]) hP hD [0, 1] [] rfl rfl (by decide) (by decide) zk hFc hP1 hD1
          generalize H1 = H at hP hS ⊢
          have hP : va_P (dC, dI) classes [(hs, .inr (2, [.ref hw, .int (nI bl), .int dn_21, .int lf_21])), (hw, .inl (cI, 40, .inl M_21))] H := hP.sub [0, 1] rfl
          have hD : va_D A [(hs, .inr (2, [.ref hw, .int (nI bl), .int dn_21, .int lf_21])), (hw, .inl (cI, 40, .inl M_21))] := hD.sub [0, 1] (by decide) rfl
          clear hPc hDc hFc hP1 hD1 zk zz zvm zt
          refine bz_eq (tgt := 90) hx hb d_St_writeTable_66 (by decide) (fun h_22 => ?_) (fun h_22 => ?_)
          · subst h_22
            refine lv_iconst (v := (nI 0)) hx hb d_St_writeTable_90 (by decide) ?_
            exact W.zret (v := (bI false)) hx hb hr (bI_narrow _) (fun t ht hW => ⟨⟨_, (M_21, dn_21, lf_21), rfl, ⟨false, rfl, (by simp only [pTab, srlC_1 hc, plcN_1 hc, tab3, sq, Nat.reduceAdd, hu_19, hu_21])⟩, by rw [ht]; exact hP, hD⟩, hS.F ht⟩) hS.2.2 d_St_writeTable_91
          · subst h_22
            refine lv_aload_n hx hb d_St_writeTable_69 rfl (lv_at hl 4 rfl) ?_
            refine lv_iload hx hb d_St_writeTable_70 (lv_at hl 1 rfl) ?_
            refine lv_iconst (v := (nI 2)) hx hb d_St_writeTable_72 (by decide) ?_
            refine lv_iadd hx hb d_St_writeTable_73 ?_
            refine tp (y := (nI 36)) (by decide) ?_
            refine lv_iload_n hx hb d_St_writeTable_74 rfl (lv_at hl 2 rfl) ?_
            refine lv_iload hx hb d_St_writeTable_75 (lv_at hl 0 rfl) ?_
            refine pr_call (va_runS (As := [.int ((M 37) + (nI 1)), .int (en &&& (nI 31))]) (rest := [.int (nI 36), .ref hs]) ⟨hx, hb, hml, hown, hts⟩ (c_St_check l dC dI cI (a := (M 37) + (nI 1)) (b := en &&& (nI 31)) ) ⟨callB_of 2 hts (gd kw_123) rfl rfl rfl (hts _ kw_39) (hts _ kw_121) (by decide +kernel) ⟨Nat.le_of_ble_eq_true rfl, Nat.le_of_ble_eq_true rfl⟩, (hts _ kw_122)⟩ ⟨fun a U g mk q => by obtain ⟨q0, qP, qK⟩ := q; exact ⟨q0, qP, qK.call⟩, fun U hU hW => ⟨rfl, by rw [hU]; exact hP.sub [] rfl, hKN.warm hW⟩⟩ rfl rfl hl.1 rfl (lv_room (Nat.le_of_ble_eq_true rfl)) d_St_writeTable_77 ⟨Nat.zero_le _, Nat.zero_le _⟩) ?_
            have hPc := hP.sub (ws' := [(hs, .inr (2, [.ref hw, .int (nI bl), .int dn_21, .int lf_21])), (hw, .inl (cI, 40, .inl M_21))]) [0, 1] rfl
            have hDc := hD.sub (ws' := [(hs, .inr (2, [.ref hw, .int (nI bl), .int dn_21, .int lf_21])), (hw, .inl (cI, 40, .inl M_21))]) [0, 1] (by decide) rfl
            have hFc := va_free (wc := [(hs, .inr (2, [.ref hw, .int (nI bl), .int dn_21, .int lf_21])), (hw, .inl (cI, 40, .inl M_21))]) hD hS hA [0, 1] rfl
            refine va_calli (va_runV (As := [.int (nI 36), .int (ck ((M 37) + (nI 1)) (en &&& (nI 31)))]) (rest := []) ⟨hx, hb, hml, hown, hts⟩ (c_St_put l dC dI cI (hs := hs) (k := 36) (x := ck ((M 37) + (nI 1)) (en &&& (nI 31))) (hw := hw) (bl := bl) (dn := dn_21) (lf := lf_21) (M := M_21) (hk := (by omega)) (sz := H.size)) ⟨callB_of 2 hts (gd kw_278) rfl rfl rfl (hts _ kw_39) (hts _ kw_275) (by decide +kernel) ⟨Nat.le_of_ble_eq_true rfl, Nat.le_of_ble_eq_true rfl⟩, (hts _ kw_277), (hts _ kw_7)⟩ ⟨fun a U g mk q => by obtain ⟨q0, q1, qP, qK, qD⟩ := q; exact ⟨q0, q1, qP, qK.call, qD⟩, va_recv hK hP (ci := 2) rfl (q0 := 0) rfl, fun U hU hW => ⟨rfl, by rw [hU], by rw [hU]; exact hPc, hKN.warm hW, hDc.weaken (fun _ _ _ _ => trivial)⟩⟩ rfl rfl hl.1 rfl (lv_room (Nat.le_of_ble_eq_true rfl)) d_St_writeTable_80 ⟨Nat.zero_le _, Nat.zero_le _⟩) hS (fun q _ h => hFc q h) hFc (fun r u t H1 locs zt zvm zw zB zz zk hS => ?_)
            obtain ⟨M_23, dn_23, lf_23⟩ := u
            obtain ⟨b_23, rfl, hu_23⟩ := zw
            obtain ⟨hP1, hD1⟩ := zB
            rw [zt] at hP1
            have hP1 : va_P (dC, dI) classes [(hs, .inr (2, [.ref hw, .int (nI bl), .int dn_23, .int lf_23])), (hw, .inl (cI, 40, .inl M_23))] H1 := hP1
            obtain ⟨hP, hD⟩ := va_join (wc := [(hs, .inr (2, [.ref hw, .int (nI bl), .int dn_21, .int lf_21])), (hw, .inl (cI, 40, .inl M_21))]) (wr := []) (w1 := [(hs, .inr (2, [.ref hw, .int (nI bl), .int dn_23, .int lf_23])), (hw, .inl (cI, 40, .inl M_23))]) hP hD [0, 1] [] rfl rfl (by decide) (by decide) zk hFc hP1 hD1
            generalize H1 = H at hP hS ⊢
            have hP : va_P (dC, dI) classes [(hs, .inr (2, [.ref hw, .int (nI bl), .int dn_23, .int lf_23])), (hw, .inl (cI, 40, .inl M_23))] H := hP.sub [0, 1] rfl
            have hD : va_D A [(hs, .inr (2, [.ref hw, .int (nI bl), .int dn_23, .int lf_23])), (hw, .inl (cI, 40, .inl M_23))] := hD.sub [0, 1] (by decide) rfl
            clear hPc hDc hFc hP1 hD1 zk zz zvm zt
            refine bz_eq (tgt := 90) hx hb d_St_writeTable_83 (by decide) (fun h_24 => ?_) (fun h_24 => ?_)
            · subst h_24
              refine lv_iconst (v := (nI 0)) hx hb d_St_writeTable_90 (by decide) ?_
              exact W.zret (v := (bI false)) hx hb hr (bI_narrow _) (fun t ht hW => ⟨⟨_, (M_23, dn_23, lf_23), rfl, ⟨false, rfl, (by simp only [pTab, srlC_1 hc, plcN_1 hc, tab3, sq, Nat.reduceAdd, hu_19, hu_21, hu_23])⟩, by rw [ht]; exact hP, hD⟩, hS.F ht⟩) hS.2.2 d_St_writeTable_91
            · subst h_24
              refine lv_iconst (v := (nI 1)) hx hb d_St_writeTable_86 (by decide) ?_
              refine lv_goto (tgt := 91) hx hb d_St_writeTable_87 (by decide) ?_
              exact W.zret (v := (bI true)) hx hb hr (bI_narrow _) (fun t ht hW => ⟨⟨_, (M_23, dn_23, lf_23), rfl, ⟨true, rfl, (by simp only [pTab, srlC_1 hc, plcN_1 hc, tab3, sq, Nat.reduceAdd, hu_19, hu_21, hu_23])⟩, by rw [ht]; exact hP, hD⟩, hS.F ht⟩) hS.2.2 d_St_writeTable_91
      · exact absurd h_18 (by decide)
    · exact absurd h_17 (by decide)
set_option maxHeartbeats 4000000 in
set_option maxRecDepth 100000 in
theorem c_St_writePackage (l : Launch) (dC : Nat → ClassId) (dI : Nat → Nat → Nat) (cI : ClassId) (hs : Nat) (k : Nat) (ha : Nat) (b : Nat) (hw : Nat) (bl : Nat) (dn : Int32) (lf : Int32) (M : Nat → Int32) (N : Nat) (f : Nat → Int32) (hN : N < 2 ^ 31) (hbN : b + 17 ≤ N) (hk : k < 2) (sz : Nat) : Met l y_St_writePackage w_St_writePackage ({ frames := 2, cells := 0, slots := 0, locals := 42 }) (va_Pc [.ref hs, .int (nI k), .ref ha, .int (nI b)] (fun U => U.heap.size = sz ∧ va_P (dC, dI) classes [(hs, .inr (2, [.ref hw, .int (nI bl), .int dn, .int lf])), (hw, .inl (cI, 40, .inl M)), (ha, .inl (cI, N, .inl f))] U.heap ∧ KN dC dI cI U ∧ va_D (fun _ => True) [(hs, .inr (2, [.ref hw, .int (nI bl), .int dn, .int lf])), (hw, .inl (cI, 40, .inl M)), (ha, .inl (cI, N, .inl f))])) (va_Qi (fun (r : Int32) (u : (Nat → Int32) × Int32 × Int32) => ∃ res : Bool, r = bI res ∧ (wpL (fun i => f (b + i)) (k * 17) 17 0 (M, dn, lf) = (res, u))) (fun (u : (Nat → Int32) × Int32 × Int32) t => va_P (dC, dI) classes [(hs, .inr (2, [.ref hw, .int (nI bl), .int u.2.1, .int u.2.2])), (hw, .inl (cI, 40, .inl u.1)), (ha, .inl (cI, N, .inl f))] t.heap ∧ va_D (va_A [(hs, .inr (2, [.ref hw, .int (nI bl), .int dn, .int lf])), (hw, .inl (cI, 40, .inl M)), (ha, .inl (cI, N, .inl f))] sz) [(hs, .inr (2, [.ref hw, .int (nI bl), .int u.2.1, .int u.2.2])), (hw, .inl (cI, 40, .inl u.1)), (ha, .inl (cI, N, .inl f))]) (va_A [(hs, .inr (2, [.ref hw, .int (nI bl), .int dn, .int lf])), (hw, .inl (cI, 40, .inl M)), (ha, .inl (cI, N, .inl f))] sz)) 0 0 (va_A [(hs, .inr (2, [.ref hw, .int (nI bl), .int dn, .int lf])), (hw, .inl (cI, 40, .inl M)), (ha, .inl (cI, N, .inl f))] sz) := by
  refine Met.ofW (cc := b_St_writePackage) (maxL := 6) (ret := (some .boolean)) (by decide) rfl ?_
  intro p e s m args below meth c s₁ B hml hv
  obtain ⟨rfl, hsz, hP, hKN, hD0⟩ := hv
  have hK := hKN.1
  have hx := B.exec
  have hb := B.bytes
  have hr := B.returns
  have hts := fun (w : Cond) (h : w ∈ gt) => atoms_spec (ws := w_St_writePackage) B.pre w (List.mem_cons_of_mem _ h)
  have hown : s.vm.findClass R_St = some m.cls := findClass_of_methodNamed B.named
  have hlocks := B.notSynchronized
  subst hsz
  have hD := hD0.self (sz := s.heap.size)
  generalize hAe : va_A [(hs, .inr (2, [.ref hw, .int (nI bl), .int dn, .int lf])), (hw, .inl (cI, 40, .inl M)), (ha, .inl (cI, N, .inl f))] s.heap.size = A at hD ⊢
  have hA : ∀ q : Nat, s.heap.size ≤ q → A q := fun q h => by rw [← hAe]; exact Or.inr h
  have hS : va_S A s.heap s.heap [] := va_S.rf
  have hP : va_P (dC, dI) classes [(hs, .inr (2, [.ref hw, .int (nI bl), .int dn, .int lf])), (hw, .inl (cI, 40, .inl M)), (ha, .inl (cI, N, .inl f))] s.heap := hP
  clear hAe hD0
  have hl := lv_entry ([.ref hs, .int (nI k), .ref ha, .int (nI b)]) (n := 6) (Nat.le_of_ble_eq_true rfl)
  rw [lg_entry_eq]
  generalize (lg_sl ([.ref hs, .int (nI k), .ref ha, .int (nI b)]) ++ List.replicate (6 - (lg_sl ([.ref hs, .int (nI k), .ref ha, .int (nI b)])).length) Slot.unset).toArray = ls at hl ⊢
  have hl : lv_has ls 6 [(0, .ref hs), (1, .int (nI k)), (2, .ref ha), (3, .int (nI b))] := hl
  refine lv_iload_n hx hb d_St_writePackage_0 rfl (lv_at hl 1 rfl) ?_
  refine pr_call (va_runS (As := [.int (nI k)]) (rest := []) ⟨hx, hb, hml, hown, hts⟩ (c_St_slotPlace l dC dI cI (k := k) ) ⟨callB_of 1 hts (gd kw_289) rfl rfl rfl (hts _ kw_39) (hts _ kw_287) (by decide +kernel) ⟨Nat.le_of_ble_eq_true rfl, Nat.le_of_ble_eq_true rfl⟩, (hts _ kw_288)⟩ ⟨fun a U g mk q => by obtain ⟨q0, qP, qK⟩ := q; exact ⟨q0, qP, qK.call⟩, fun U hU hW => ⟨rfl, by rw [hU]; exact hP.sub [] rfl, hKN.warm hW⟩⟩ rfl rfl hl.1 rfl (lv_room (Nat.le_of_ble_eq_true rfl)) d_St_writePackage_1 ⟨Nat.zero_le _, Nat.zero_le _⟩) ?_
  refine lv_istore (lv' := [(4, .int (nI (k * 17))), (0, .ref hs), (1, .int (nI k)), (2, .ref ha), (3, .int (nI b))]) hx hb d_St_writePackage_4 hl (by decide) rfl (fun ls hl => ?_)
  refine lv_iconst (v := (nI 0)) hx hb d_St_writePackage_6 (by decide) ?_
  refine lv_istore (lv' := [(5, .int (nI 0)), (4, .int (nI (k * 17))), (0, .ref hs), (1, .int (nI k)), (2, .ref ha), (3, .int (nI b))]) hx hb d_St_writePackage_7 hl (by decide) rfl (fun ls hl => ?_)
  refine wloop (ι := Nat × (Nat → Int32) × Int32 × Int32) (fun i => 17 - (i.1)) (fun i ls H locs => ((i.1) ≤ 17 ∧ wpL (fun z => f (b + z)) (k * 17) 17 0 (M, dn, lf) = wpL (fun z => f (b + z)) (k * 17) (17 - (i.1)) (i.1) ((i.2.1), (i.2.2.1), (i.2.2.2))) ∧ lv_has ls 6 [(5, .int (nI (i.1))), (4, .int (nI (k * 17))), (0, .ref hs), (1, .int (nI k)), (2, .ref ha), (3, .int (nI b))] ∧ va_P (dC, dI) classes [(hs, .inr (2, [.ref hw, .int (nI bl), .int (i.2.2.1), .int (i.2.2.2)])), (hw, .inl (cI, 40, .inl (i.2.1))), (ha, .inl (cI, N, .inl f))] H ∧ va_D A [(hs, .inr (2, [.ref hw, .int (nI bl), .int (i.2.2.1), .int (i.2.2.2)])), (hw, .inl (cI, 40, .inl (i.2.1))), (ha, .inl (cI, N, .inl f))] ∧ va_S A s.heap H locs) ?_ (0, M, dn, lf) ⟨⟨by omega, rfl⟩, hl, hP, hD, hS⟩
  clear hl hP hD hS
  rintro ⟨i, M2, dn2, lf2⟩ ls H locs ⟨hinv, hl, hP, hD, hS⟩ ih
  dsimp only at hinv hl ih hP hD
  refine lv_iload hx hb d_St_writePackage_9 (lv_at hl 0 rfl) ?_
  refine lv_bipush (v := (nI 17)) hx hb d_St_writePackage_11 (by decide) ?_
  refine nb_ge (tgt := 42) hx hb d_St_writePackage_13 (by decide) (by first | omega | exact Nat.lt_of_lt_of_le (stt_lt _ _) (by decide)) (by first | omega | exact Nat.lt_of_lt_of_le (stt_lt _ _) (by decide)) (fun h_1 => ?_) (fun h_1 => ?_)
  · refine lv_iconst (v := (nI 1)) hx hb d_St_writePackage_42 (by decide) ?_
    exact W.zret (v := (bI true)) hx hb hr (bI_narrow _) (fun t ht hW => ⟨⟨_, (M2, dn2, lf2), rfl, ⟨true, rfl, (by rw [hinv.2]; rw [show 17 - i = 0 by omega, wpL])⟩, by rw [ht]; exact hP, hD⟩, hS.F ht⟩) hS.2.2 d_St_writePackage_43
  · refine lv_aload_n hx hb d_St_writePackage_16 rfl (lv_at hl 2 rfl) ?_
    refine lv_iload hx hb d_St_writePackage_17 (lv_at hl 1 rfl) ?_
    refine lv_iload hx hb d_St_writePackage_19 (lv_at hl 0 rfl) ?_
    refine lv_iadd hx hb d_St_writePackage_21 ?_
    refine tp (nI_add _ _) ?_
    refine lv_aload_n hx hb d_St_writePackage_22 rfl (lv_at hl 4 rfl) ?_
    refine lv_iload_n hx hb d_St_writePackage_23 rfl (lv_at hl 5 rfl) ?_
    refine lv_iload hx hb d_St_writePackage_24 (lv_at hl 0 rfl) ?_
    refine lv_iadd hx hb d_St_writePackage_26 ?_
    refine tp (nI_add _ _) ?_
    refine ar_ld (k := b + i) hx hb hK hP 2 0 rfl rfl (by omega) (by first | decide | omega) d_St_writePackage_27 ?_
    have hPc := hP.sub (ws' := [(hs, .inr (2, [.ref hw, .int (nI bl), .int dn2, .int lf2])), (hw, .inl (cI, 40, .inl M2))]) [0, 1] rfl
    have hDc := hD.sub (ws' := [(hs, .inr (2, [.ref hw, .int (nI bl), .int dn2, .int lf2])), (hw, .inl (cI, 40, .inl M2))]) [0, 1] (by decide) rfl
    have hFc := va_free (wc := [(hs, .inr (2, [.ref hw, .int (nI bl), .int dn2, .int lf2])), (hw, .inl (cI, 40, .inl M2))]) hD hS hA [0, 1] rfl
    refine va_calli (va_runV (As := [.int (nI ((k * 17) + i)), .int (f (b + i))]) (rest := []) ⟨hx, hb, hml, hown, hts⟩ (c_St_put l dC dI cI (hs := hs) (k := (k * 17) + i) (x := f (b + i)) (hw := hw) (bl := bl) (dn := dn2) (lf := lf2) (M := M2) (hk := (by omega)) (sz := H.size)) ⟨callB_of 2 hts (gd kw_278) rfl rfl rfl (hts _ kw_39) (hts _ kw_275) (by decide +kernel) ⟨Nat.le_of_ble_eq_true rfl, Nat.le_of_ble_eq_true rfl⟩, (hts _ kw_277), (hts _ kw_7)⟩ ⟨fun a U g mk q => by obtain ⟨q0, q1, qP, qK, qD⟩ := q; exact ⟨q0, q1, qP, qK.call, qD⟩, va_recv hK hP (ci := 2) rfl (q0 := 0) rfl, fun U hU hW => ⟨rfl, by rw [hU], by rw [hU]; exact hPc, hKN.warm hW, hDc.weaken (fun _ _ _ _ => trivial)⟩⟩ rfl rfl hl.1 rfl (lv_room (Nat.le_of_ble_eq_true rfl)) d_St_writePackage_28 ⟨Nat.zero_le _, Nat.zero_le _⟩) hS (fun q _ h => hFc q h) hFc (fun r u t H1 locs zt zvm zw zB zz zk hS => ?_)
    obtain ⟨M_2, dn_2, lf_2⟩ := u
    obtain ⟨b_2, rfl, hu_2⟩ := zw
    obtain ⟨hP1, hD1⟩ := zB
    rw [zt] at hP1
    have hP1 : va_P (dC, dI) classes [(hs, .inr (2, [.ref hw, .int (nI bl), .int dn_2, .int lf_2])), (hw, .inl (cI, 40, .inl M_2))] H1 := hP1
    obtain ⟨hP, hD⟩ := va_join (wc := [(hs, .inr (2, [.ref hw, .int (nI bl), .int dn2, .int lf2])), (hw, .inl (cI, 40, .inl M2))]) (wr := [(ha, .inl (cI, N, .inl f))]) (w1 := [(hs, .inr (2, [.ref hw, .int (nI bl), .int dn_2, .int lf_2])), (hw, .inl (cI, 40, .inl M_2))]) hP hD [0, 1] [2] rfl rfl (by decide) (by decide) zk hFc hP1 hD1
    generalize H1 = H at hP hS ⊢
    have hP : va_P (dC, dI) classes [(hs, .inr (2, [.ref hw, .int (nI bl), .int dn_2, .int lf_2])), (hw, .inl (cI, 40, .inl M_2)), (ha, .inl (cI, N, .inl f))] H := hP.sub [1, 2, 0] rfl
    have hD : va_D A [(hs, .inr (2, [.ref hw, .int (nI bl), .int dn_2, .int lf_2])), (hw, .inl (cI, 40, .inl M_2)), (ha, .inl (cI, N, .inl f))] := hD.sub [1, 2, 0] (by decide) rfl
    clear hPc hDc hFc hP1 hD1 zk zz zvm zt
    refine bz_ne (tgt := 36) hx hb d_St_writePackage_31 (by decide) (fun h_3 => ?_) (fun h_3 => ?_)
    · subst h_3
      refine lv_iinc (k := 0) (v := (nI (i + 1))) (lv' := [(5, .int (nI (i + 1))), (4, .int (nI (k * 17))), (0, .ref hs), (1, .int (nI k)), (2, .ref ha), (3, .int (nI b))]) hx hb d_St_writePackage_36 hl rfl (nI_inc _) (by decide) rfl (fun ls hl => ?_)
      refine lv_goto (tgt := 9) hx hb d_St_writePackage_39 (by decide) ?_
      exact ih (i + 1, M_2, dn_2, lf_2) ls H locs (by show 17 - (i + 1) < 17 - i; omega) ⟨⟨by (try dsimp only); omega, by rw [hinv.2, show 17 - i = (17 - (i + 1)) + 1 by omega, wpL]; simp only [hu_2, sq]⟩, hl, hP, hD, hS⟩
    · subst h_3
      refine lv_iconst (v := (nI 0)) hx hb d_St_writePackage_34 (by decide) ?_
      exact W.zret (v := (bI false)) hx hb hr (bI_narrow _) (fun t ht hW => ⟨⟨_, (M_2, dn_2, lf_2), rfl, ⟨false, rfl, (by rw [hinv.2]; rw [show 17 - i = (17 - (i + 1)) + 1 by omega, wpL]; simp only [hu_2, sq])⟩, by rw [ht]; exact hP, hD⟩, hS.F ht⟩) hS.2.2 d_St_writePackage_35
set_option maxHeartbeats 4000000 in
set_option maxRecDepth 100000 in
theorem c_St_blowUpTo (l : Launch) (dC : Nat → ClassId) (dI : Nat → Nat → Nat) (cI : ClassId) (hs : Nat) (v : Int32) (hw : Nat) (bl : Nat) (dn : Int32) (lf : Int32) (hbl : bl ≤ 32) (sz : Nat) : Met l y_St_blowUpTo w_St_blowUpTo ({ frames := 1, cells := 0, slots := 0, locals := 40 }) (va_Pc [.ref hs, .int v] (fun U => U.heap.size = sz ∧ va_P (dC, dI) classes [(hs, .inr (2, [.ref hw, .int (nI bl), .int dn, .int lf]))] U.heap ∧ KN dC dI cI U ∧ va_D (fun _ => True) [(hs, .inr (2, [.ref hw, .int (nI bl), .int dn, .int lf]))])) (va_Qi (fun (r : Int32) (u : Nat × Int32 × Int32) => ∃ res : Bool, r = bI res ∧ (pBlow v bl dn lf = (res, u))) (fun (u : Nat × Int32 × Int32) t => va_P (dC, dI) classes [(hs, .inr (2, [.ref hw, .int (nI u.1), .int u.2.1, .int u.2.2]))] t.heap ∧ va_D (va_A [(hs, .inr (2, [.ref hw, .int (nI bl), .int dn, .int lf]))] sz) [(hs, .inr (2, [.ref hw, .int (nI u.1), .int u.2.1, .int u.2.2]))]) (va_A [(hs, .inr (2, [.ref hw, .int (nI bl), .int dn, .int lf]))] sz)) 0 0 (va_A [(hs, .inr (2, [.ref hw, .int (nI bl), .int dn, .int lf]))] sz) := by
  refine Met.ofW (cc := b_St_blowUpTo) (maxL := 4) (ret := (some .boolean)) (by decide) rfl ?_
  intro p e s m args below meth c s₁ B hml hv
  obtain ⟨rfl, hsz, hP, hKN, hD0⟩ := hv
  have hK := hKN.1
  have hx := B.exec
  have hb := B.bytes
  have hr := B.returns
  have hts := fun (w : Cond) (h : w ∈ gt) => atoms_spec (ws := w_St_blowUpTo) B.pre w (List.mem_cons_of_mem _ h)
  have hown : s.vm.findClass R_St = some m.cls := findClass_of_methodNamed B.named
  have hlocks := B.notSynchronized
  subst hsz
  have hD := hD0.self (sz := s.heap.size)
  generalize hAe : va_A [(hs, .inr (2, [.ref hw, .int (nI bl), .int dn, .int lf]))] s.heap.size = A at hD ⊢
  have hA : ∀ q : Nat, s.heap.size ≤ q → A q := fun q h => by rw [← hAe]; exact Or.inr h
  have hS : va_S A s.heap s.heap [] := va_S.rf
  have hP : va_P (dC, dI) classes [(hs, .inr (2, [.ref hw, .int (nI bl), .int dn, .int lf]))] s.heap := hP
  clear hAe hD0
  have hl := lv_entry ([.ref hs, .int v]) (n := 4) (Nat.le_of_ble_eq_true rfl)
  rw [lg_entry_eq]
  generalize (lg_sl ([.ref hs, .int v]) ++ List.replicate (4 - (lg_sl ([.ref hs, .int v])).length) Slot.unset).toArray = ls at hl ⊢
  have hl : lv_has ls 4 [(0, .ref hs), (1, .int v)] := hl
  refine lv_iload_n hx hb d_St_blowUpTo_0 rfl (lv_at hl 1 rfl) ?_
  refine lv_bipush (v := (nI 32)) hx hb d_St_blowUpTo_1 (by decide) ?_
  refine va_mmin hx hb (by rw [hml]; exact hl.1.symm) hown (hts _ kw_342) (hts _ kw_343) (hts _ kw_43) (hts _ kw_344) (Nat.le_of_ble_eq_true rfl) (Nat.le_of_ble_eq_true rfl) (Nat.zero_le _) (Nat.zero_le _) d_St_blowUpTo_3 ?_
  rcases gl_or v with ⟨hg, hg0⟩ | ⟨hg, hg0⟩
  · refine lv_topi (fun g eg => ?_)
    rw [← eg] at hg
    refine lv_istore_n (lv' := [(2, .int g), (0, .ref hs), (1, .int v)]) hx hb d_St_blowUpTo_6 rfl hl (by decide) rfl (fun ls hl => ?_)
    refine lv_aload_n hx hb d_St_blowUpTo_7 rfl (lv_at hl 1 rfl) ?_
    refine va_get (D := (dC, dI)) (ci := 2) (v := .int (nI bl)) (C := R_St) (T := F_St) (N := 4) hx hb hts in_St hown hK hP 0 rfl rfl 1 (by decide) (hts _ kw_127) (fun _ h9 => h9) rfl d_St_blowUpTo_8 ?_
    refine lv_istore_n (lv' := [(3, .int (nI bl)), (2, .int g), (0, .ref hs), (1, .int v)]) hx hb d_St_blowUpTo_11 rfl hl (by decide) rfl (fun ls hl => ?_)
    refine lv_iload_n hx hb d_St_blowUpTo_12 rfl (lv_at hl 0 rfl) ?_
    refine lv_iload_n hx hb d_St_blowUpTo_13 rfl (lv_at hl 1 rfl) ?_
    refine lv_icmp_ge (tgt := 42) hx hb d_St_blowUpTo_14 (by decide) (fun h_1 => ?_) (fun h_1 => ?_)
    · refine lv_iconst (v := (nI 1)) hx hb d_St_blowUpTo_42 (by decide) ?_
      exact W.zret (v := (bI true)) hx hb hr (bI_narrow _) (fun t ht hW => ⟨⟨_, (bl, dn, lf), rfl, ⟨true, rfl, (by rw [pBlow, hg0, Nat.zero_sub, bw])⟩, by rw [ht]; exact hP, hD⟩, hS.F ht⟩) hS.2.2 d_St_blowUpTo_43
    · exact absurd (neg_le hg (by omega)) h_1
  · refine tp hg ?_
    refine lv_istore_n (lv' := [(2, .int (nI (gl v))), (0, .ref hs), (1, .int v)]) hx hb d_St_blowUpTo_6 rfl hl (by decide) rfl (fun ls hl => ?_)
    refine lv_aload_n hx hb d_St_blowUpTo_7 rfl (lv_at hl 1 rfl) ?_
    refine va_get (D := (dC, dI)) (ci := 2) (v := .int (nI bl)) (C := R_St) (T := F_St) (N := 4) hx hb hts in_St hown hK hP 0 rfl rfl 1 (by decide) (hts _ kw_127) (fun _ h9 => h9) rfl d_St_blowUpTo_8 ?_
    refine lv_istore_n (lv' := [(3, .int (nI bl)), (2, .int (nI (gl v))), (0, .ref hs), (1, .int v)]) hx hb d_St_blowUpTo_11 rfl hl (by decide) rfl (fun ls hl => ?_)
    refine wloop (ι := Nat × Nat × Int32 × Int32) (fun i => gl v - (i.1)) (fun i ls H locs => ((i.1) = (i.2.1) ∧ (i.2.1) ≤ 32 ∧ pBlow v bl dn lf = bw (gl v - (i.2.1)) (i.2.1) (i.2.2.1) (i.2.2.2)) ∧ lv_has ls 4 [(3, .int (nI (i.1))), (2, .int (nI (gl v))), (0, .ref hs), (1, .int v)] ∧ va_P (dC, dI) classes [(hs, .inr (2, [.ref hw, .int (nI (i.2.1)), .int (i.2.2.1), .int (i.2.2.2)]))] H ∧ va_D A [(hs, .inr (2, [.ref hw, .int (nI (i.2.1)), .int (i.2.2.1), .int (i.2.2.2)]))] ∧ va_S A s.heap H locs) ?_ (bl, bl, dn, lf) ⟨⟨rfl, hbl, rfl⟩, hl, hP, hD, hS⟩
    clear hl hP hD hS
    rintro ⟨k, bl2, dn2, lf2⟩ ls H locs ⟨hinv, hl, hP, hD, hS⟩ ih
    dsimp only at hinv hl ih hP hD
    refine lv_iload_n hx hb d_St_blowUpTo_12 rfl (lv_at hl 0 rfl) ?_
    refine lv_iload_n hx hb d_St_blowUpTo_13 rfl (lv_at hl 1 rfl) ?_
    refine nb_ge (tgt := 42) hx hb d_St_blowUpTo_14 (by decide) (by first | omega | exact Nat.lt_of_lt_of_le (stt_lt _ _) (by decide)) (by first | omega | exact Nat.lt_of_lt_of_le (stt_lt _ _) (by decide)) (fun h_2 => ?_) (fun h_2 => ?_)
    · refine lv_iconst (v := (nI 1)) hx hb d_St_blowUpTo_42 (by decide) ?_
      exact W.zret (v := (bI true)) hx hb hr (bI_narrow _) (fun t ht hW => ⟨⟨_, (bl2, dn2, lf2), rfl, ⟨true, rfl, (by rw [hinv.2.2, show gl v - bl2 = 0 by omega, bw])⟩, by rw [ht]; exact hP, hD⟩, hS.F ht⟩) hS.2.2 d_St_blowUpTo_43
    · refine lv_aload_n hx hb d_St_blowUpTo_17 rfl (lv_at hl 2 rfl) ?_
      have hPc := hP.sub (ws' := [(hs, .inr (2, [.ref hw, .int (nI bl2), .int dn2, .int lf2]))]) [0] rfl
      have hDc := hD.sub (ws' := [(hs, .inr (2, [.ref hw, .int (nI bl2), .int dn2, .int lf2]))]) [0] (by decide) rfl
      have hFc := va_free (wc := [(hs, .inr (2, [.ref hw, .int (nI bl2), .int dn2, .int lf2]))]) hD hS hA [0] rfl
      refine va_calli (va_runV (As := []) (rest := []) ⟨hx, hb, hml, hown, hts⟩ (c_St_mayWrite l dC dI cI (hs := hs) (hw := hw) (bl := bl2) (dn := dn2) (lf := lf2)  (sz := H.size)) ⟨callB_of 0 hts (gd kw_282) rfl rfl rfl (hts _ kw_39) (hts _ kw_279) (by decide +kernel) ⟨Nat.le_of_ble_eq_true rfl, Nat.le_of_ble_eq_true rfl⟩, (hts _ kw_281), (hts _ kw_8)⟩ ⟨fun a U g mk q => by obtain ⟨q0, q1, qP, qK, qD⟩ := q; exact ⟨q0, q1, qP, qK.call, qD⟩, va_recv hK hP (ci := 2) rfl (q0 := 0) rfl, fun U hU hW => ⟨rfl, by rw [hU], by rw [hU]; exact hPc, hKN.warm hW, hDc.weaken (fun _ _ _ _ => trivial)⟩⟩ rfl rfl hl.1 rfl (lv_room (Nat.le_of_ble_eq_true rfl)) d_St_blowUpTo_18 ⟨Nat.zero_le _, Nat.zero_le _⟩) hS (fun q _ h => hFc q h) hFc (fun r u t H1 locs zt zvm zw zB zz zk hS => ?_)
      obtain ⟨dn_3, lf_3⟩ := u
      obtain ⟨b_3, rfl, hu_3⟩ := zw
      obtain ⟨hP1, hD1⟩ := zB
      rw [zt] at hP1
      have hP1 : va_P (dC, dI) classes [(hs, .inr (2, [.ref hw, .int (nI bl2), .int dn_3, .int lf_3]))] H1 := hP1
      obtain ⟨hP, hD⟩ := va_join (wc := [(hs, .inr (2, [.ref hw, .int (nI bl2), .int dn2, .int lf2]))]) (wr := []) (w1 := [(hs, .inr (2, [.ref hw, .int (nI bl2), .int dn_3, .int lf_3]))]) hP hD [0] [] rfl rfl (by decide) (by decide) zk hFc hP1 hD1
      generalize H1 = H at hP hS ⊢
      have hP : va_P (dC, dI) classes [(hs, .inr (2, [.ref hw, .int (nI bl2), .int dn_3, .int lf_3]))] H := hP.sub [0] rfl
      have hD : va_D A [(hs, .inr (2, [.ref hw, .int (nI bl2), .int dn_3, .int lf_3]))] := hD.sub [0] (by decide) rfl
      clear hPc hDc hFc hP1 hD1 zk zz zvm zt
      refine bz_ne (tgt := 26) hx hb d_St_blowUpTo_21 (by decide) (fun h_4 => ?_) (fun h_4 => ?_)
      · subst h_4
        refine lv_aload_n hx hb d_St_blowUpTo_26 rfl (lv_at hl 2 rfl) ?_
        refine lv_dup hx hb d_St_blowUpTo_27 rfl ?_
        refine va_get (D := (dC, dI)) (ci := 2) (v := .int (nI bl2)) (C := R_St) (T := F_St) (N := 4) hx hb hts in_St hown hK hP 0 rfl rfl 1 (by decide) (hts _ kw_127) (fun _ h9 => h9) rfl d_St_blowUpTo_28 ?_
        refine lv_iconst (v := (nI 1)) hx hb d_St_blowUpTo_31 (by decide) ?_
        refine lv_iadd hx hb d_St_blowUpTo_32 ?_
        refine tp (nI_add _ _) ?_
        refine va_put (D := (dC, dI)) (ci := 2) (v := .int (nI (bl2 + 1))) (ty := .int) (C := R_St) (T := F_St) (N := 4) hx hb hts in_St t_St t_St_ok n_St hown hK hP hD hS 0 rfl rfl 1 (by decide) (hts _ kw_127) (fun _ h9 => h9) rfl (by decide +kernel) rfl rfl (Nat.le_of_ble_eq_true rfl) d_St_blowUpTo_33 (fun H locs hP hD hS => ?_)
        have hP : va_P (dC, dI) classes [(hs, .inr (2, [.ref hw, .int (nI (bl2 + 1)), .int dn_3, .int lf_3]))] H := hP
        have hD : va_D A [(hs, .inr (2, [.ref hw, .int (nI (bl2 + 1)), .int dn_3, .int lf_3]))] := hD
        refine lv_iinc (k := 0) (v := (nI (k + 1))) (lv' := [(3, .int (nI (k + 1))), (2, .int (nI (gl v))), (0, .ref hs), (1, .int v)]) hx hb d_St_blowUpTo_36 hl rfl (nI_inc _) (by decide) rfl (fun ls hl => ?_)
        refine lv_goto (tgt := 12) hx hb d_St_blowUpTo_39 (by decide) ?_
        exact ih (k + 1, bl2 + 1, dn_3, lf_3) ls H locs (by show gl v - (k + 1) < gl v - k; omega) ⟨⟨by (try dsimp only); omega, by (try dsimp only); omega, by rw [hinv.2.2, show gl v - bl2 = (gl v - (bl2 + 1)) + 1 by omega]; simp only [bw, hu_3]⟩, hl, hP, hD, hS⟩
      · subst h_4
        refine lv_iconst (v := (nI 0)) hx hb d_St_blowUpTo_24 (by decide) ?_
        exact W.zret (v := (bI false)) hx hb hr (bI_narrow _) (fun t ht hW => ⟨⟨_, (bl2, dn_3, lf_3), rfl, ⟨false, rfl, (by rw [hinv.2.2, show gl v - bl2 = (gl v - (bl2 + 1)) + 1 by omega]; simp only [bw, hu_3])⟩, by rw [ht]; exact hP, hD⟩, hS.F ht⟩) hS.2.2 d_St_blowUpTo_25
