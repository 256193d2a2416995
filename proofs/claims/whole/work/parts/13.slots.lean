set_option maxHeartbeats 4000000 in
set_option maxRecDepth 100000 in
theorem c_TS_key (l : Launch) (dC : Nat → ClassId) (dI : Nat → Nat → Nat) (cI : ClassId) (ht : Nat) (hm : Nat) (hs : Nat) (hp : Nat) (cn : Nat) (rn : Int32) (tr : Bool) (he : Nat) (ec : Nat) (me : Int32) (sc : Int32) (hn : Nat) (nk : Nat) (nd : Nat → Int32)  : Met l y_TS_key w_TS_key ({ frames := 1, cells := 0, slots := 0, locals := 20 }) (va_Pc [.ref ht] (fun U => va_P (dC, dI) classes [(ht, .inr (0, [.ref hm, .ref hs, .ref hp, .int (nI cn), .int rn, .int (bI tr), .ref he, .int (nI ec), .int me])), (hm, .inr (1, [.int sc, .ref hn, .int (nI nk)])), (hn, .inl (cI, 16, .inl nd))] U.heap ∧ KN dC dI cI U)) (qr (nd 1)) 0 0 (fun _ => False) := by
  refine Met.ofW (cc := b_TS_key) (maxL := 1) (ret := (some .int)) (by decide) rfl ?_
  intro p e s m args below meth c s₁ B hml hv
  obtain ⟨rfl, hP, hKN⟩ := hv
  have hK := hKN.1
  have hx := B.exec
  have hb := B.bytes
  have hr := B.returns
  have hts := fun (w : Cond) (h : w ∈ gt) => atoms_spec (ws := w_TS_key) B.pre w (List.mem_cons_of_mem _ h)
  have hown : s.vm.findClass R_TS = some m.cls := findClass_of_methodNamed B.named
  have hlocks := B.notSynchronized
  have hl := lv_entry ([.ref ht]) (n := 1) (Nat.le_of_ble_eq_true rfl)
  rw [lg_entry_eq]
  generalize (lg_sl ([.ref ht]) ++ List.replicate (1 - (lg_sl ([.ref ht])).length) Slot.unset).toArray = ls at hl ⊢
  have hl : lv_has ls 1 [(0, .ref ht)] := hl
  refine lv_aload_n hx hb d_TS_key_0 rfl (lv_at hl 0 rfl) ?_
  refine va_get (D := (dC, dI)) (ci := 0) (v := .ref hm) (C := R_TS) (T := F_TS) (N := 9) hx hb hts in_TS hown hK hP 0 rfl rfl 0 (by decide) (hts _ kw_142) (fun _ h9 => h9) rfl d_TS_key_1 ?_
  refine pr_call (va_runV (As := []) (rest := []) ⟨hx, hb, hml, hown, hts⟩ (c_Mk_root l dC dI cI (hm := hm) (sc := sc) (hn := hn) (nk := nk) (nd := nd) ) ⟨callB_of 0 hts (gd kw_177) rfl rfl rfl (hts _ kw_36) (hts _ kw_174) (by decide +kernel) ⟨Nat.le_of_ble_eq_true rfl, Nat.le_of_ble_eq_true rfl⟩, (hts _ kw_175), (hts _ kw_176)⟩ ⟨fun a U g mk q => by obtain ⟨q0, qP, qK⟩ := q; exact ⟨q0, qP, qK.call⟩, va_recv hK hP (ci := 1) rfl (q0 := 1) rfl, fun U hU hW => ⟨rfl, by rw [hU]; exact hP.sub [1, 2] rfl, hKN.warm hW⟩⟩ rfl rfl hl.1 rfl (lv_room (Nat.le_of_ble_eq_true rfl)) d_TS_key_4 ⟨Nat.zero_le _, Nat.zero_le _⟩) ?_
  exact W.iret (v := (nd 1)) hx hb hr (fun t ht hW => ⟨_, rfl, (by first | rfl | (simp only []; done) | (simp only []; rfl) | (simp []; done)), ht⟩) (fun q h => by cases h) d_TS_key_7
set_option maxHeartbeats 4000000 in
set_option maxRecDepth 100000 in
theorem c_TS_running (l : Launch) (dC : Nat → ClassId) (dI : Nat → Nat → Nat) (cI : ClassId) (ht : Nat) (hm : Nat) (hs : Nat) (hp : Nat) (cn : Nat) (rn : Int32) (tr : Bool) (he : Nat) (ec : Nat) (me : Int32)  : Met l y_TS_running w_TS_running ({ frames := 0, cells := 0, slots := 0, locals := 0 }) (va_Pc [.ref ht] (fun U => va_P (dC, dI) classes [(ht, .inr (0, [.ref hm, .ref hs, .ref hp, .int (nI cn), .int rn, .int (bI tr), .ref he, .int (nI ec), .int me]))] U.heap ∧ KN dC dI cI U)) (qr (rn)) 0 0 (fun _ => False) := by
  refine Met.ofW (cc := b_TS_running) (maxL := 1) (ret := (some .int)) (by decide) rfl ?_
  intro p e s m args below meth c s₁ B hml hv
  obtain ⟨rfl, hP, hKN⟩ := hv
  have hK := hKN.1
  have hx := B.exec
  have hb := B.bytes
  have hr := B.returns
  have hts := fun (w : Cond) (h : w ∈ gt) => atoms_spec (ws := w_TS_running) B.pre w (List.mem_cons_of_mem _ h)
  have hown : s.vm.findClass R_TS = some m.cls := findClass_of_methodNamed B.named
  have hlocks := B.notSynchronized
  have hl := lv_entry ([.ref ht]) (n := 1) (Nat.le_of_ble_eq_true rfl)
  rw [lg_entry_eq]
  generalize (lg_sl ([.ref ht]) ++ List.replicate (1 - (lg_sl ([.ref ht])).length) Slot.unset).toArray = ls at hl ⊢
  have hl : lv_has ls 1 [(0, .ref ht)] := hl
  refine lv_aload_n hx hb d_TS_running_0 rfl (lv_at hl 0 rfl) ?_
  refine va_get (D := (dC, dI)) (ci := 0) (v := .int rn) (C := R_TS) (T := F_TS) (N := 9) hx hb hts in_TS hown hK hP 0 rfl rfl 4 (by decide) (hts _ kw_146) (fun _ h9 => h9) rfl d_TS_running_1 ?_
  exact W.iret (v := rn) hx hb hr (fun t ht hW => ⟨_, rfl, (by first | rfl | (simp only []; done) | (simp only []; rfl) | (simp []; done)), ht⟩) (fun q h => by cases h) d_TS_running_4
set_option maxHeartbeats 4000000 in
set_option maxRecDepth 100000 in
theorem c_TS_onTrial (l : Launch) (dC : Nat → ClassId) (dI : Nat → Nat → Nat) (cI : ClassId) (ht : Nat) (hm : Nat) (hs : Nat) (hp : Nat) (cn : Nat) (rn : Int32) (tr : Bool) (he : Nat) (ec : Nat) (me : Int32)  : Met l y_TS_onTrial w_TS_onTrial ({ frames := 0, cells := 0, slots := 0, locals := 0 }) (va_Pc [.ref ht] (fun U => va_P (dC, dI) classes [(ht, .inr (0, [.ref hm, .ref hs, .ref hp, .int (nI cn), .int rn, .int (bI tr), .ref he, .int (nI ec), .int me]))] U.heap ∧ KN dC dI cI U)) (qr (bI tr)) 0 0 (fun _ => False) := by
  refine Met.ofW (cc := b_TS_onTrial) (maxL := 1) (ret := (some .boolean)) (by decide) rfl ?_
  intro p e s m args below meth c s₁ B hml hv
  obtain ⟨rfl, hP, hKN⟩ := hv
  have hK := hKN.1
  have hx := B.exec
  have hb := B.bytes
  have hr := B.returns
  have hts := fun (w : Cond) (h : w ∈ gt) => atoms_spec (ws := w_TS_onTrial) B.pre w (List.mem_cons_of_mem _ h)
  have hown : s.vm.findClass R_TS = some m.cls := findClass_of_methodNamed B.named
  have hlocks := B.notSynchronized
  have hl := lv_entry ([.ref ht]) (n := 1) (Nat.le_of_ble_eq_true rfl)
  rw [lg_entry_eq]
  generalize (lg_sl ([.ref ht]) ++ List.replicate (1 - (lg_sl ([.ref ht])).length) Slot.unset).toArray = ls at hl ⊢
  have hl : lv_has ls 1 [(0, .ref ht)] := hl
  refine lv_aload_n hx hb d_TS_onTrial_0 rfl (lv_at hl 0 rfl) ?_
  refine va_get (D := (dC, dI)) (ci := 0) (v := .int (bI tr)) (C := R_TS) (T := F_TS) (N := 9) hx hb hts in_TS hown hK hP 0 rfl rfl 5 (by decide) (hts _ kw_147) (fun _ h9 => h9) rfl d_TS_onTrial_1 ?_
  exact W.zret (v := (bI tr)) hx hb hr (bI_narrow _) (fun t ht hW => ⟨_, rfl, (by first | rfl | (simp only []; done) | (simp only []; rfl) | (simp []; done)), ht⟩) (fun q h => by cases h) d_TS_onTrial_4
set_option maxHeartbeats 4000000 in
set_option maxRecDepth 100000 in
theorem c_TS_counter (l : Launch) (dC : Nat → ClassId) (dI : Nat → Nat → Nat) (cI : ClassId) (ht : Nat) (hm : Nat) (hs : Nat) (hp : Nat) (cn : Nat) (rn : Int32) (tr : Bool) (he : Nat) (ec : Nat) (me : Int32) (hw : Nat) (bl : Nat) (dn : Int32) (lf : Int32)  : Met l y_TS_counter w_TS_counter ({ frames := 0, cells := 0, slots := 0, locals := 0 }) (va_Pc [.ref ht] (fun U => va_P (dC, dI) classes [(ht, .inr (0, [.ref hm, .ref hs, .ref hp, .int (nI cn), .int rn, .int (bI tr), .ref he, .int (nI ec), .int me])), (hs, .inr (2, [.ref hw, .int (nI bl), .int dn, .int lf]))] U.heap ∧ KN dC dI cI U)) (qr (nI bl)) 0 0 (fun _ => False) := by
  refine Met.ofW (cc := b_TS_counter) (maxL := 1) (ret := (some .int)) (by decide) rfl ?_
  intro p e s m args below meth c s₁ B hml hv
  obtain ⟨rfl, hP, hKN⟩ := hv
  have hK := hKN.1
  have hx := B.exec
  have hb := B.bytes
  have hr := B.returns
  have hts := fun (w : Cond) (h : w ∈ gt) => atoms_spec (ws := w_TS_counter) B.pre w (List.mem_cons_of_mem _ h)
  have hown : s.vm.findClass R_TS = some m.cls := findClass_of_methodNamed B.named
  have hlocks := B.notSynchronized
  have hl := lv_entry ([.ref ht]) (n := 1) (Nat.le_of_ble_eq_true rfl)
  rw [lg_entry_eq]
  generalize (lg_sl ([.ref ht]) ++ List.replicate (1 - (lg_sl ([.ref ht])).length) Slot.unset).toArray = ls at hl ⊢
  have hl : lv_has ls 1 [(0, .ref ht)] := hl
  refine lv_aload_n hx hb d_TS_counter_0 rfl (lv_at hl 0 rfl) ?_
  refine va_get (D := (dC, dI)) (ci := 0) (v := .ref hs) (C := R_TS) (T := F_TS) (N := 9) hx hb hts in_TS hown hK hP 0 rfl rfl 1 (by decide) (hts _ kw_143) (fun _ h9 => h9) rfl d_TS_counter_1 ?_
  refine va_getN (D := (dC, dI)) (ci := 2) (v := .int (nI bl)) (C := R_St) (T := F_St) (N := 4) hx hb hts in_St hown hK hP 1 rfl rfl 1 (by decide) (va_Nw.use rfl (nst_5 hKN.2)) (fun _ h9 => h9) rfl d_TS_counter_4 ?_
  exact W.iret (v := (nI bl)) hx hb hr (fun t ht hW => ⟨_, rfl, (by first | rfl | (simp only []; done) | (simp only []; rfl) | (simp []; done)), ht⟩) (fun q h => by cases h) d_TS_counter_7
set_option maxHeartbeats 4000000 in
set_option maxRecDepth 100000 in
theorem c_TS_register (l : Launch) (dC : Nat → ClassId) (dI : Nat → Nat → Nat) (cI : ClassId) (ht : Nat) (hm : Nat) (hs : Nat) (hp : Nat) (cn : Nat) (rn : Int32) (tr : Bool) (he : Nat) (ec : Nat) (me : Int32)  : Met l y_TS_register w_TS_register ({ frames := 0, cells := 0, slots := 0, locals := 0 }) (va_Pc [.ref ht] (fun U => va_P (dC, dI) classes [(ht, .inr (0, [.ref hm, .ref hs, .ref hp, .int (nI cn), .int rn, .int (bI tr), .ref he, .int (nI ec), .int me]))] U.heap ∧ KN dC dI cI U)) (qr (me)) 0 0 (fun _ => False) := by
  refine Met.ofW (cc := b_TS_register) (maxL := 1) (ret := (some .int)) (by decide) rfl ?_
  intro p e s m args below meth c s₁ B hml hv
  obtain ⟨rfl, hP, hKN⟩ := hv
  have hK := hKN.1
  have hx := B.exec
  have hb := B.bytes
  have hr := B.returns
  have hts := fun (w : Cond) (h : w ∈ gt) => atoms_spec (ws := w_TS_register) B.pre w (List.mem_cons_of_mem _ h)
  have hown : s.vm.findClass R_TS = some m.cls := findClass_of_methodNamed B.named
  have hlocks := B.notSynchronized
  have hl := lv_entry ([.ref ht]) (n := 1) (Nat.le_of_ble_eq_true rfl)
  rw [lg_entry_eq]
  generalize (lg_sl ([.ref ht]) ++ List.replicate (1 - (lg_sl ([.ref ht])).length) Slot.unset).toArray = ls at hl ⊢
  have hl : lv_has ls 1 [(0, .ref ht)] := hl
  refine lv_aload_n hx hb d_TS_register_0 rfl (lv_at hl 0 rfl) ?_
  refine va_get (D := (dC, dI)) (ci := 0) (v := .int me) (C := R_TS) (T := F_TS) (N := 9) hx hb hts in_TS hown hK hP 0 rfl rfl 8 (by decide) (hts _ kw_150) (fun _ h9 => h9) rfl d_TS_register_1 ?_
  exact W.iret (v := me) hx hb hr (fun t ht hW => ⟨_, rfl, (by first | rfl | (simp only []; done) | (simp only []; rfl) | (simp []; done)), ht⟩) (fun q h => by cases h) d_TS_register_4
set_option maxHeartbeats 4000000 in
set_option maxRecDepth 100000 in
theorem c_TS_writes (l : Launch) (dC : Nat → ClassId) (dI : Nat → Nat → Nat) (cI : ClassId) (ht : Nat) (hm : Nat) (hs : Nat) (hp : Nat) (cn : Nat) (rn : Int32) (tr : Bool) (he : Nat) (ec : Nat) (me : Int32) (hw : Nat) (bl : Nat) (dn : Int32) (lf : Int32)  : Met l y_TS_writes w_TS_writes ({ frames := 0, cells := 0, slots := 0, locals := 0 }) (va_Pc [.ref ht] (fun U => va_P (dC, dI) classes [(ht, .inr (0, [.ref hm, .ref hs, .ref hp, .int (nI cn), .int rn, .int (bI tr), .ref he, .int (nI ec), .int me])), (hs, .inr (2, [.ref hw, .int (nI bl), .int dn, .int lf]))] U.heap ∧ KN dC dI cI U)) (qr (dn)) 0 0 (fun _ => False) := by
  refine Met.ofW (cc := b_TS_writes) (maxL := 1) (ret := (some .int)) (by decide) rfl ?_
  intro p e s m args below meth c s₁ B hml hv
  obtain ⟨rfl, hP, hKN⟩ := hv
  have hK := hKN.1
  have hx := B.exec
  have hb := B.bytes
  have hr := B.returns
  have hts := fun (w : Cond) (h : w ∈ gt) => atoms_spec (ws := w_TS_writes) B.pre w (List.mem_cons_of_mem _ h)
  have hown : s.vm.findClass R_TS = some m.cls := findClass_of_methodNamed B.named
  have hlocks := B.notSynchronized
  have hl := lv_entry ([.ref ht]) (n := 1) (Nat.le_of_ble_eq_true rfl)
  rw [lg_entry_eq]
  generalize (lg_sl ([.ref ht]) ++ List.replicate (1 - (lg_sl ([.ref ht])).length) Slot.unset).toArray = ls at hl ⊢
  have hl : lv_has ls 1 [(0, .ref ht)] := hl
  refine lv_aload_n hx hb d_TS_writes_0 rfl (lv_at hl 0 rfl) ?_
  refine va_get (D := (dC, dI)) (ci := 0) (v := .ref hs) (C := R_TS) (T := F_TS) (N := 9) hx hb hts in_TS hown hK hP 0 rfl rfl 1 (by decide) (hts _ kw_143) (fun _ h9 => h9) rfl d_TS_writes_1 ?_
  refine va_getN (D := (dC, dI)) (ci := 2) (v := .int dn) (C := R_St) (T := F_St) (N := 4) hx hb hts in_St hown hK hP 1 rfl rfl 2 (by decide) (va_Nw.use rfl (nst_6 hKN.2)) (fun _ h9 => h9) rfl d_TS_writes_4 ?_
  exact W.iret (v := dn) hx hb hr (fun t ht hW => ⟨_, rfl, (by first | rfl | (simp only []; done) | (simp only []; rfl) | (simp []; done)), ht⟩) (fun q h => by cases h) d_TS_writes_7
set_option maxHeartbeats 4000000 in
set_option maxRecDepth 100000 in
theorem c_TS_home (l : Launch) (dC : Nat → ClassId) (dI : Nat → Nat → Nat) (cI : ClassId) (ht : Nat) (hm : Nat) (hs : Nat) (hp : Nat) (cn : Nat) (rn : Int32) (tr : Bool) (he : Nat) (ec : Nat) (me : Int32) (hw : Nat) (bl : Nat) (dn : Int32) (lf : Int32) (M : Nat → Int32)  : Met l y_TS_home w_TS_home ({ frames := 5, cells := 0, slots := 0, locals := 108 }) (va_Pc [.ref ht] (fun U => va_P (dC, dI) classes [(ht, .inr (0, [.ref hm, .ref hs, .ref hp, .int (nI cn), .int rn, .int (bI tr), .ref he, .int (nI ec), .int me])), (hs, .inr (2, [.ref hw, .int (nI bl), .int dn, .int lf])), (hw, .inl (cI, 40, .inl M))] U.heap ∧ KN dC dI cI U)) (qr (nI (hom (ety M)))) 0 0 (fun _ => False) := by
  refine Met.ofW (cc := b_TS_home) (maxL := 1) (ret := (some .int)) (by decide) rfl ?_
  intro p e s m args below meth c s₁ B hml hv
  obtain ⟨rfl, hP, hKN⟩ := hv
  have hK := hKN.1
  have hx := B.exec
  have hb := B.bytes
  have hr := B.returns
  have hts := fun (w : Cond) (h : w ∈ gt) => atoms_spec (ws := w_TS_home) B.pre w (List.mem_cons_of_mem _ h)
  have hown : s.vm.findClass R_TS = some m.cls := findClass_of_methodNamed B.named
  have hlocks := B.notSynchronized
  have hl := lv_entry ([.ref ht]) (n := 1) (Nat.le_of_ble_eq_true rfl)
  rw [lg_entry_eq]
  generalize (lg_sl ([.ref ht]) ++ List.replicate (1 - (lg_sl ([.ref ht])).length) Slot.unset).toArray = ls at hl ⊢
  have hl : lv_has ls 1 [(0, .ref ht)] := hl
  refine lv_aload_n hx hb d_TS_home_0 rfl (lv_at hl 0 rfl) ?_
  refine va_get (D := (dC, dI)) (ci := 0) (v := .ref hs) (C := R_TS) (T := F_TS) (N := 9) hx hb hts in_TS hown hK hP 0 rfl rfl 1 (by decide) (hts _ kw_143) (fun _ h9 => h9) rfl d_TS_home_1 ?_
  refine pr_call (va_runV (As := []) (rest := []) ⟨hx, hb, hml, hown, hts⟩ (c_St_entry l dC dI cI (hs := hs) (hw := hw) (bl := bl) (dn := dn) (lf := lf) (M := M) ) ⟨callB_of 0 hts (gd kw_243) rfl rfl rfl (hts _ kw_39) (hts _ kw_240) (by decide +kernel) ⟨Nat.le_of_ble_eq_true rfl, Nat.le_of_ble_eq_true rfl⟩, (hts _ kw_241), (hts _ kw_242)⟩ ⟨fun a U g mk q => by obtain ⟨q0, qP, qK⟩ := q; exact ⟨q0, qP, qK.call⟩, va_recv hK hP (ci := 2) rfl (q0 := 1) rfl, fun U hU hW => ⟨rfl, by rw [hU]; exact hP.sub [1, 2] rfl, hKN.warm hW⟩⟩ rfl rfl hl.1 rfl (lv_room (Nat.le_of_ble_eq_true rfl)) d_TS_home_4 ⟨Nat.zero_le _, Nat.zero_le _⟩) ?_
  refine pr_call (va_runS (As := [.int (ety M)]) (rest := []) ⟨hx, hb, hml, hown, hts⟩ (c_Tb_homeIn l dC dI cI (en := ety M) ) ⟨callB_of 1 hts (gd kw_257) rfl rfl rfl (hts _ kw_42) (hts _ kw_255) (by decide +kernel) ⟨Nat.le_of_ble_eq_true rfl, Nat.le_of_ble_eq_true rfl⟩, (hts _ kw_256)⟩ ⟨fun a U g mk q => by obtain ⟨q0, qP, qK⟩ := q; exact ⟨q0, qP, qK.call⟩, fun U hU hW => ⟨rfl, by rw [hU]; exact hP.sub [] rfl, hKN.warm hW⟩⟩ rfl rfl hl.1 rfl (lv_room (Nat.le_of_ble_eq_true rfl)) d_TS_home_7 ⟨Nat.zero_le _, Nat.zero_le _⟩) ?_
  exact W.iret (v := (nI (hom (ety M)))) hx hb hr (fun t ht hW => ⟨_, rfl, (by first | rfl | (simp only []; done) | (simp only []; rfl) | (simp []; done)), ht⟩) (fun q h => by cases h) d_TS_home_10
set_option maxHeartbeats 4000000 in
set_option maxRecDepth 100000 in
theorem c_TS_isPackage (l : Launch) (dC : Nat → ClassId) (dI : Nat → Nat → Nat) (cI : ClassId) (ht : Nat) (v : Int32) (hm : Nat) (hs : Nat) (hp : Nat) (cn : Nat) (rn : Int32) (tr : Bool) (he : Nat) (ec : Nat) (me : Int32)  : Met l y_TS_isPackage w_TS_isPackage ({ frames := 0, cells := 0, slots := 0, locals := 0 }) (va_Pc [.ref ht, .int v] (fun U => va_P (dC, dI) classes [(ht, .inr (0, [.ref hm, .ref hs, .ref hp, .int (nI cn), .int rn, .int (bI tr), .ref he, .int (nI ec), .int me]))] U.heap ∧ KN dC dI cI U)) (qr (bI (isPk v cn))) 0 0 (fun _ => False) := by
  refine Met.ofW (cc := b_TS_isPackage) (maxL := 2) (ret := (some .boolean)) (by decide) rfl ?_
  intro p e s m args below meth c s₁ B hml hv
  obtain ⟨rfl, hP, hKN⟩ := hv
  have hK := hKN.1
  have hx := B.exec
  have hb := B.bytes
  have hr := B.returns
  have hts := fun (w : Cond) (h : w ∈ gt) => atoms_spec (ws := w_TS_isPackage) B.pre w (List.mem_cons_of_mem _ h)
  have hown : s.vm.findClass R_TS = some m.cls := findClass_of_methodNamed B.named
  have hlocks := B.notSynchronized
  have hl := lv_entry ([.ref ht, .int v]) (n := 2) (Nat.le_of_ble_eq_true rfl)
  rw [lg_entry_eq]
  generalize (lg_sl ([.ref ht, .int v]) ++ List.replicate (2 - (lg_sl ([.ref ht, .int v])).length) Slot.unset).toArray = ls at hl ⊢
  have hl : lv_has ls 2 [(0, .ref ht), (1, .int v)] := hl
  refine lv_iload_n hx hb d_TS_isPackage_0 rfl (lv_at hl 1 rfl) ?_
  refine lv_if_lt (tgt := 16) hx hb d_TS_isPackage_1 (by decide) (fun h_1 => ?_) (fun h_1 => ?_)
  · refine lv_iconst (v := (nI 0)) hx hb d_TS_isPackage_16 (by decide) ?_
    exact W.zret (v := (bI false)) hx hb hr (bI_narrow _) (fun t ht hW => ⟨_, rfl, (by first | rfl | (simp only [isPk, if_pos h_1]; done) | (simp only [isPk, if_pos h_1]; rfl) | (simp [isPk, h_1]; done)), ht⟩) (fun q h => by cases h) d_TS_isPackage_17
  · refine lv_iload_n hx hb d_TS_isPackage_4 rfl (lv_at hl 1 rfl) ?_
    refine lv_aload_n hx hb d_TS_isPackage_5 rfl (lv_at hl 0 rfl) ?_
    refine va_get (D := (dC, dI)) (ci := 0) (v := .int (nI cn)) (C := R_TS) (T := F_TS) (N := 9) hx hb hts in_TS hown hK hP 0 rfl rfl 3 (by decide) (hts _ kw_145) (fun _ h9 => h9) rfl d_TS_isPackage_6 ?_
    refine lv_icmp_ge (tgt := 16) hx hb d_TS_isPackage_9 (by decide) (fun h_2 => ?_) (fun h_2 => ?_)
    · refine lv_iconst (v := (nI 0)) hx hb d_TS_isPackage_16 (by decide) ?_
      exact W.zret (v := (bI false)) hx hb hr (bI_narrow _) (fun t ht hW => ⟨_, rfl, (by first | rfl | (simp only [isPk, if_neg h_1, if_pos h_2]; done) | (simp only [isPk, if_neg h_1, if_pos h_2]; rfl) | (simp [isPk, h_1, h_2]; done)), ht⟩) (fun q h => by cases h) d_TS_isPackage_17
    · refine lv_iconst (v := (nI 1)) hx hb d_TS_isPackage_12 (by decide) ?_
      refine lv_goto (tgt := 17) hx hb d_TS_isPackage_13 (by decide) ?_
      exact W.zret (v := (bI true)) hx hb hr (bI_narrow _) (fun t ht hW => ⟨_, rfl, (by first | rfl | (simp only [isPk, if_neg h_1, if_neg h_2]; done) | (simp only [isPk, if_neg h_1, if_neg h_2]; rfl) | (simp [isPk, h_1, h_2]; done)), ht⟩) (fun q h => by cases h) d_TS_isPackage_17
set_option maxHeartbeats 4000000 in
set_option maxRecDepth 100000 in
theorem c_TS_isPackageWord (l : Launch) (dC : Nat → ClassId) (dI : Nat → Nat → Nat) (cI : ClassId) (ht : Nat) (v : Int32) (w : Int32) (hm : Nat) (hs : Nat) (hp : Nat) (cn : Nat) (rn : Int32) (tr : Bool) (he : Nat) (ec : Nat) (me : Int32)  : Met l y_TS_isPackageWord w_TS_isPackageWord ({ frames := 1, cells := 0, slots := 0, locals := 21 }) (va_Pc [.ref ht, .int v, .int w] (fun U => va_P (dC, dI) classes [(ht, .inr (0, [.ref hm, .ref hs, .ref hp, .int (nI cn), .int rn, .int (bI tr), .ref he, .int (nI ec), .int me]))] U.heap ∧ KN dC dI cI U)) (qr (bI (isPw v w cn))) 0 0 (fun _ => False) := by
  refine Met.ofW (cc := b_TS_isPackageWord) (maxL := 3) (ret := (some .boolean)) (by decide) rfl ?_
  intro p e s m args below meth c s₁ B hml hv
  obtain ⟨rfl, hP, hKN⟩ := hv
  have hK := hKN.1
  have hx := B.exec
  have hb := B.bytes
  have hr := B.returns
  have hts := fun (w : Cond) (h : w ∈ gt) => atoms_spec (ws := w_TS_isPackageWord) B.pre w (List.mem_cons_of_mem _ h)
  have hown : s.vm.findClass R_TS = some m.cls := findClass_of_methodNamed B.named
  have hlocks := B.notSynchronized
  have hl := lv_entry ([.ref ht, .int v, .int w]) (n := 3) (Nat.le_of_ble_eq_true rfl)
  rw [lg_entry_eq]
  generalize (lg_sl ([.ref ht, .int v, .int w]) ++ List.replicate (3 - (lg_sl ([.ref ht, .int v, .int w])).length) Slot.unset).toArray = ls at hl ⊢
  have hl : lv_has ls 3 [(0, .ref ht), (1, .int v), (2, .int w)] := hl
  refine lv_aload_n hx hb d_TS_isPackageWord_0 rfl (lv_at hl 0 rfl) ?_
  refine lv_iload_n hx hb d_TS_isPackageWord_1 rfl (lv_at hl 1 rfl) ?_
  refine pr_call (va_runV (As := [.int v]) (rest := []) ⟨hx, hb, hml, hown, hts⟩ (c_TS_isPackage l dC dI cI (ht := ht) (v := v) (hm := hm) (hs := hs) (hp := hp) (cn := cn) (rn := rn) (tr := tr) (he := he) (ec := ec) (me := me) ) ⟨callB_of 1 hts (gd kw_203) rfl rfl rfl (hts _ kw_35) (hts _ kw_200) (by decide +kernel) ⟨Nat.le_of_ble_eq_true rfl, Nat.le_of_ble_eq_true rfl⟩, (hts _ kw_202), (hts _ kw_3)⟩ ⟨fun a U g mk q => by obtain ⟨q0, qP, qK⟩ := q; exact ⟨q0, qP, qK.call⟩, va_recv hK hP (ci := 0) rfl (q0 := 0) rfl, fun U hU hW => ⟨rfl, by rw [hU]; exact hP.sub [0] rfl, hKN.warm hW⟩⟩ rfl rfl hl.1 rfl (lv_room (Nat.le_of_ble_eq_true rfl)) d_TS_isPackageWord_2 ⟨Nat.zero_le _, Nat.zero_le _⟩) ?_
  refine bz_eq (tgt := 22) hx hb d_TS_isPackageWord_5 (by decide) (fun h_1 => ?_) (fun h_1 => ?_)
  · refine lv_iconst (v := (nI 0)) hx hb d_TS_isPackageWord_22 (by decide) ?_
    exact W.zret (v := (bI false)) hx hb hr (bI_narrow _) (fun t ht hW => ⟨_, rfl, (by simp [isPw, h_1]), ht⟩) (fun q h => by cases h) d_TS_isPackageWord_23
  · refine lv_iload_n hx hb d_TS_isPackageWord_8 rfl (lv_at hl 2 rfl) ?_
    refine lv_if_lt (tgt := 22) hx hb d_TS_isPackageWord_9 (by decide) (fun h_2 => ?_) (fun h_2 => ?_)
    · refine lv_iconst (v := (nI 0)) hx hb d_TS_isPackageWord_22 (by decide) ?_
      exact W.zret (v := (bI false)) hx hb hr (bI_narrow _) (fun t ht hW => ⟨_, rfl, (by simp [isPw, h_1, h_2]), ht⟩) (fun q h => by cases h) d_TS_isPackageWord_23
    · refine lv_iload_n hx hb d_TS_isPackageWord_12 rfl (lv_at hl 2 rfl) ?_
      refine lv_bipush (v := (nI 17)) hx hb d_TS_isPackageWord_13 (by decide) ?_
      refine lv_icmp_ge (tgt := 22) hx hb d_TS_isPackageWord_15 (by decide) (fun h_3 => ?_) (fun h_3 => ?_)
      · refine lv_iconst (v := (nI 0)) hx hb d_TS_isPackageWord_22 (by decide) ?_
        exact W.zret (v := (bI false)) hx hb hr (bI_narrow _) (fun t ht hW => ⟨_, rfl, (by simp [isPw, h_1, h_2, h_3]), ht⟩) (fun q h => by cases h) d_TS_isPackageWord_23
      · refine lv_iconst (v := (nI 1)) hx hb d_TS_isPackageWord_18 (by decide) ?_
        refine lv_goto (tgt := 23) hx hb d_TS_isPackageWord_19 (by decide) ?_
        exact W.zret (v := (bI true)) hx hb hr (bI_narrow _) (fun t ht hW => ⟨_, rfl, (by simp [isPw, h_1, h_2, h_3]), ht⟩) (fun q h => by cases h) d_TS_isPackageWord_23
set_option maxHeartbeats 4000000 in
set_option maxRecDepth 100000 in
theorem c_TS_state (l : Launch) (dC : Nat → ClassId) (dI : Nat → Nat → Nat) (cI : ClassId) (ht : Nat) (v : Int32) (hm : Nat) (hs : Nat) (hp : Nat) (cn : Nat) (rn : Int32) (tr : Bool) (he : Nat) (ec : Nat) (me : Int32) (hw : Nat) (bl : Nat) (dn : Int32) (lf : Int32) (M : Nat → Int32)  : Met l y_TS_state w_TS_state ({ frames := 5, cells := 0, slots := 0, locals := 108 }) (va_Pc [.ref ht, .int v] (fun U => va_P (dC, dI) classes [(ht, .inr (0, [.ref hm, .ref hs, .ref hp, .int (nI cn), .int rn, .int (bI tr), .ref he, .int (nI ec), .int me])), (hs, .inr (2, [.ref hw, .int (nI bl), .int dn, .int lf])), (hw, .inl (cI, 40, .inl M))] U.heap ∧ KN dC dI cI U)) (qr (sta (ety M) v)) 0 0 (fun _ => False) := by
  refine Met.ofW (cc := b_TS_state) (maxL := 2) (ret := (some .int)) (by decide) rfl ?_
  intro p e s m args below meth c s₁ B hml hv
  obtain ⟨rfl, hP, hKN⟩ := hv
  have hK := hKN.1
  have hx := B.exec
  have hb := B.bytes
  have hr := B.returns
  have hts := fun (w : Cond) (h : w ∈ gt) => atoms_spec (ws := w_TS_state) B.pre w (List.mem_cons_of_mem _ h)
  have hown : s.vm.findClass R_TS = some m.cls := findClass_of_methodNamed B.named
  have hlocks := B.notSynchronized
  have hl := lv_entry ([.ref ht, .int v]) (n := 2) (Nat.le_of_ble_eq_true rfl)
  rw [lg_entry_eq]
  generalize (lg_sl ([.ref ht, .int v]) ++ List.replicate (2 - (lg_sl ([.ref ht, .int v])).length) Slot.unset).toArray = ls at hl ⊢
  have hl : lv_has ls 2 [(0, .ref ht), (1, .int v)] := hl
  rcases sta_cases v with rfl | rfl | ⟨h0, h1⟩
  · refine lv_iload_n hx hb d_TS_state_0 rfl (lv_at hl 1 rfl) ?_
    refine nz_eq (tgt := 9) hx hb d_TS_state_1 (by decide) (by decide) (fun h_1 => ?_) (fun h_1 => ?_)
    · refine lv_aload_n hx hb d_TS_state_9 rfl (lv_at hl 0 rfl) ?_
      refine va_get (D := (dC, dI)) (ci := 0) (v := .ref hs) (C := R_TS) (T := F_TS) (N := 9) hx hb hts in_TS hown hK hP 0 rfl rfl 1 (by decide) (hts _ kw_143) (fun _ h9 => h9) rfl d_TS_state_10 ?_
      refine pr_call (va_runV (As := []) (rest := []) ⟨hx, hb, hml, hown, hts⟩ (c_St_entry l dC dI cI (hs := hs) (hw := hw) (bl := bl) (dn := dn) (lf := lf) (M := M) ) ⟨callB_of 0 hts (gd kw_243) rfl rfl rfl (hts _ kw_39) (hts _ kw_240) (by decide +kernel) ⟨Nat.le_of_ble_eq_true rfl, Nat.le_of_ble_eq_true rfl⟩, (hts _ kw_241), (hts _ kw_242)⟩ ⟨fun a U g mk q => by obtain ⟨q0, qP, qK⟩ := q; exact ⟨q0, qP, qK.call⟩, va_recv hK hP (ci := 2) rfl (q0 := 1) rfl, fun U hU hW => ⟨rfl, by rw [hU]; exact hP.sub [1, 2] rfl, hKN.warm hW⟩⟩ rfl rfl hl.1 rfl (lv_room (Nat.le_of_ble_eq_true rfl)) d_TS_state_13 ⟨Nat.zero_le _, Nat.zero_le _⟩) ?_
      refine lv_iload_n hx hb d_TS_state_16 rfl (lv_at hl 1 rfl) ?_
      refine pr_call (va_runS (As := [.int (ety M), .int (nI 0)]) (rest := []) ⟨hx, hb, hml, hown, hts⟩ (c_Tb_stateIn l dC dI cI (en := ety M) (k := 0) ) ⟨callB_of 2 hts (gd kw_312) rfl rfl rfl (hts _ kw_42) (hts _ kw_337) (by decide +kernel) ⟨Nat.le_of_ble_eq_true rfl, Nat.le_of_ble_eq_true rfl⟩, (hts _ kw_311)⟩ ⟨fun a U g mk q => by obtain ⟨q0, qP, qK⟩ := q; exact ⟨q0, qP, qK.call⟩, fun U hU hW => ⟨rfl, by rw [hU]; exact hP.sub [] rfl, hKN.warm hW⟩⟩ rfl rfl hl.1 rfl (lv_room (Nat.le_of_ble_eq_true rfl)) d_TS_state_17 ⟨Nat.zero_le _, Nat.zero_le _⟩) ?_
      refine lv_goto (tgt := 24) hx hb d_TS_state_20 (by decide) ?_
      exact W.iret (v := (nI (stt (ety M) 0))) hx hb hr (fun t ht hW => ⟨_, rfl, (by rfl), ht⟩) (fun q h => by cases h) d_TS_state_24
    · exact absurd h_1 (by decide)
  · refine lv_iload_n hx hb d_TS_state_0 rfl (lv_at hl 1 rfl) ?_
    refine nz_eq (tgt := 9) hx hb d_TS_state_1 (by decide) (by decide) (fun h_2 => ?_) (fun h_2 => ?_)
    · exact absurd h_2 (by decide)
    · refine lv_iload_n hx hb d_TS_state_4 rfl (lv_at hl 1 rfl) ?_
      refine lv_iconst (v := (nI 1)) hx hb d_TS_state_5 (by decide) ?_
      refine nb_ne (tgt := 23) hx hb d_TS_state_6 (by decide) (by decide) (by decide) (fun h_3 => ?_) (fun h_3 => ?_)
      · exact absurd h_3 (by decide)
      · refine lv_aload_n hx hb d_TS_state_9 rfl (lv_at hl 0 rfl) ?_
        refine va_get (D := (dC, dI)) (ci := 0) (v := .ref hs) (C := R_TS) (T := F_TS) (N := 9) hx hb hts in_TS hown hK hP 0 rfl rfl 1 (by decide) (hts _ kw_143) (fun _ h9 => h9) rfl d_TS_state_10 ?_
        refine pr_call (va_runV (As := []) (rest := []) ⟨hx, hb, hml, hown, hts⟩ (c_St_entry l dC dI cI (hs := hs) (hw := hw) (bl := bl) (dn := dn) (lf := lf) (M := M) ) ⟨callB_of 0 hts (gd kw_243) rfl rfl rfl (hts _ kw_39) (hts _ kw_240) (by decide +kernel) ⟨Nat.le_of_ble_eq_true rfl, Nat.le_of_ble_eq_true rfl⟩, (hts _ kw_241), (hts _ kw_242)⟩ ⟨fun a U g mk q => by obtain ⟨q0, qP, qK⟩ := q; exact ⟨q0, qP, qK.call⟩, va_recv hK hP (ci := 2) rfl (q0 := 1) rfl, fun U hU hW => ⟨rfl, by rw [hU]; exact hP.sub [1, 2] rfl, hKN.warm hW⟩⟩ rfl rfl hl.1 rfl (lv_room (Nat.le_of_ble_eq_true rfl)) d_TS_state_13 ⟨Nat.zero_le _, Nat.zero_le _⟩) ?_
        refine lv_iload_n hx hb d_TS_state_16 rfl (lv_at hl 1 rfl) ?_
        refine pr_call (va_runS (As := [.int (ety M), .int (nI 1)]) (rest := []) ⟨hx, hb, hml, hown, hts⟩ (c_Tb_stateIn l dC dI cI (en := ety M) (k := 1) ) ⟨callB_of 2 hts (gd kw_312) rfl rfl rfl (hts _ kw_42) (hts _ kw_337) (by decide +kernel) ⟨Nat.le_of_ble_eq_true rfl, Nat.le_of_ble_eq_true rfl⟩, (hts _ kw_311)⟩ ⟨fun a U g mk q => by obtain ⟨q0, qP, qK⟩ := q; exact ⟨q0, qP, qK.call⟩, fun U hU hW => ⟨rfl, by rw [hU]; exact hP.sub [] rfl, hKN.warm hW⟩⟩ rfl rfl hl.1 rfl (lv_room (Nat.le_of_ble_eq_true rfl)) d_TS_state_17 ⟨Nat.zero_le _, Nat.zero_le _⟩) ?_
        refine lv_goto (tgt := 24) hx hb d_TS_state_20 (by decide) ?_
        exact W.iret (v := (nI (stt (ety M) 1))) hx hb hr (fun t ht hW => ⟨_, rfl, (by rfl), ht⟩) (fun q h => by cases h) d_TS_state_24
  · refine lv_iload_n hx hb d_TS_state_0 rfl (lv_at hl 1 rfl) ?_
    refine lv_if_eq (tgt := 9) hx hb d_TS_state_1 (by decide) (fun h_4 => ?_) (fun h_4 => ?_)
    · exact absurd h_4 h0
    · refine lv_iload_n hx hb d_TS_state_4 rfl (lv_at hl 1 rfl) ?_
      refine lv_iconst (v := (nI 1)) hx hb d_TS_state_5 (by decide) ?_
      refine lv_icmp_ne (tgt := 23) hx hb d_TS_state_6 (by decide) (fun h_5 => ?_) (fun h_5 => ?_)
      · refine lv_iconst (v := (-1)) hx hb d_TS_state_23 (by decide) ?_
        exact W.iret (v := (-1)) hx hb hr (fun t ht hW => ⟨_, rfl, (by rw [sta, if_neg h0, if_neg h1]), ht⟩) (fun q h => by cases h) d_TS_state_24
      · exact absurd h_5 h1
set_option maxHeartbeats 4000000 in
set_option maxRecDepth 100000 in
theorem c_TS_fault (l : Launch) (dC : Nat → ClassId) (dI : Nat → Nat → Nat) (cI : ClassId) (ht : Nat) (v : Int32) (hm : Nat) (hs : Nat) (hp : Nat) (cn : Nat) (rn : Int32) (tr : Bool) (he : Nat) (ec : Nat) (me : Int32) (sc : Int32) (hn : Nat) (nk : Nat) (nd : Nat → Int32) (pk : Nat → Int32) (hcn : cn ≤ 7) : Met l y_TS_fault w_TS_fault ({ frames := 5, cells := 0, slots := 0, locals := 118 }) (va_Pc [.ref ht, .int v] (fun U => va_P (dC, dI) classes [(ht, .inr (0, [.ref hm, .ref hs, .ref hp, .int (nI cn), .int rn, .int (bI tr), .ref he, .int (nI ec), .int me])), (hm, .inr (1, [.int sc, .ref hn, .int (nI nk)])), (hn, .inl (cI, 16, .inl nd)), (hp, .inl (cI, 119, .inl pk))] U.heap ∧ KN dC dI cI U)) (qr (flt v cn pk (nd 1))) 0 0 (fun _ => False) := by
  refine Met.ofW (cc := b_TS_fault) (maxL := 2) (ret := (some .int)) (by decide) rfl ?_
  intro p e s m args below meth c s₁ B hml hv
  obtain ⟨rfl, hP, hKN⟩ := hv
  have hK := hKN.1
  have hx := B.exec
  have hb := B.bytes
  have hr := B.returns
  have hts := fun (w : Cond) (h : w ∈ gt) => atoms_spec (ws := w_TS_fault) B.pre w (List.mem_cons_of_mem _ h)
  have hown : s.vm.findClass R_TS = some m.cls := findClass_of_methodNamed B.named
  have hlocks := B.notSynchronized
  have hl := lv_entry ([.ref ht, .int v]) (n := 2) (Nat.le_of_ble_eq_true rfl)
  rw [lg_entry_eq]
  generalize (lg_sl ([.ref ht, .int v]) ++ List.replicate (2 - (lg_sl ([.ref ht, .int v])).length) Slot.unset).toArray = ls at hl ⊢
  have hl : lv_has ls 2 [(0, .ref ht), (1, .int v)] := hl
  rcases pk_or (v := v) (n := cn) (by omega) with ⟨j, hj, rfl, hjp⟩ | hbad
  · refine lv_aload_n hx hb d_TS_fault_0 rfl (lv_at hl 0 rfl) ?_
    refine lv_iload_n hx hb d_TS_fault_1 rfl (lv_at hl 1 rfl) ?_
    refine pr_call (va_runV (As := [.int (nI j)]) (rest := []) ⟨hx, hb, hml, hown, hts⟩ (c_TS_isPackage l dC dI cI (ht := ht) (v := (nI j)) (hm := hm) (hs := hs) (hp := hp) (cn := cn) (rn := rn) (tr := tr) (he := he) (ec := ec) (me := me) ) ⟨callB_of 1 hts (gd kw_203) rfl rfl rfl (hts _ kw_35) (hts _ kw_200) (by decide +kernel) ⟨Nat.le_of_ble_eq_true rfl, Nat.le_of_ble_eq_true rfl⟩, (hts _ kw_202), (hts _ kw_3)⟩ ⟨fun a U g mk q => by obtain ⟨q0, qP, qK⟩ := q; exact ⟨q0, qP, qK.call⟩, va_recv hK hP (ci := 0) rfl (q0 := 0) rfl, fun U hU hW => ⟨rfl, by rw [hU]; exact hP.sub [0] rfl, hKN.warm hW⟩⟩ rfl rfl hl.1 rfl (lv_room (Nat.le_of_ble_eq_true rfl)) d_TS_fault_2 ⟨Nat.zero_le _, Nat.zero_le _⟩) ?_
    refine bz_ne (tgt := 10) hx hb d_TS_fault_5 (by decide) (fun h_1 => ?_) (fun h_1 => ?_)
    · refine lv_aload_n hx hb d_TS_fault_10 rfl (lv_at hl 0 rfl) ?_
      refine va_get (D := (dC, dI)) (ci := 0) (v := .ref hp) (C := R_TS) (T := F_TS) (N := 9) hx hb hts in_TS hown hK hP 0 rfl rfl 2 (by decide) (hts _ kw_144) (fun _ h9 => h9) rfl d_TS_fault_11 ?_
      refine lv_iload_n hx hb d_TS_fault_14 rfl (lv_at hl 1 rfl) ?_
      refine pr_call (va_runS (As := [.int (nI j)]) (rest := [.ref hp]) ⟨hx, hb, hml, hown, hts⟩ (c_TS_packagePlace l dC dI cI (k := j) ) ⟨callB_of 1 hts (gd kw_191) rfl rfl rfl (hts _ kw_35) (hts _ kw_189) (by decide +kernel) ⟨Nat.le_of_ble_eq_true rfl, Nat.le_of_ble_eq_true rfl⟩, (hts _ kw_190)⟩ ⟨fun a U g mk q => by obtain ⟨q0, qP, qK⟩ := q; exact ⟨q0, qP, qK.call⟩, fun U hU hW => ⟨rfl, by rw [hU]; exact hP.sub [] rfl, hKN.warm hW⟩⟩ rfl rfl hl.1 rfl (lv_room (Nat.le_of_ble_eq_true rfl)) d_TS_fault_15 ⟨Nat.zero_le _, Nat.zero_le _⟩) ?_
      refine lv_aload_n hx hb d_TS_fault_18 rfl (lv_at hl 0 rfl) ?_
      refine va_get (D := (dC, dI)) (ci := 0) (v := .ref hm) (C := R_TS) (T := F_TS) (N := 9) hx hb hts in_TS hown hK hP 0 rfl rfl 0 (by decide) (hts _ kw_142) (fun _ h9 => h9) rfl d_TS_fault_19 ?_
      refine pr_call (va_runV (As := []) (rest := [.int (nI (j * 17)), .ref hp]) ⟨hx, hb, hml, hown, hts⟩ (c_Mk_root l dC dI cI (hm := hm) (sc := sc) (hn := hn) (nk := nk) (nd := nd) ) ⟨callB_of 0 hts (gd kw_177) rfl rfl rfl (hts _ kw_36) (hts _ kw_174) (by decide +kernel) ⟨Nat.le_of_ble_eq_true rfl, Nat.le_of_ble_eq_true rfl⟩, (hts _ kw_175), (hts _ kw_176)⟩ ⟨fun a U g mk q => by obtain ⟨q0, qP, qK⟩ := q; exact ⟨q0, qP, qK.call⟩, va_recv hK hP (ci := 1) rfl (q0 := 1) rfl, fun U hU hW => ⟨rfl, by rw [hU]; exact hP.sub [1, 2] rfl, hKN.warm hW⟩⟩ rfl rfl hl.1 rfl (lv_room (Nat.le_of_ble_eq_true rfl)) d_TS_fault_22 ⟨Nat.zero_le _, Nat.zero_le _⟩) ?_
      refine pr_call (va_runS (As := [.ref hp, .int (nI (j * 17)), .int (nd 1)]) (rest := []) ⟨hx, hb, hml, hown, hts⟩ (c_PW_whatIsWrong l dC dI cI (ha := hp) (b := j * 17) (rt := nd 1) (N := 119) (f := pk) (hN := (by omega)) (hbN := (by omega))) ⟨callB_of 3 hts (gd kw_214) rfl rfl rfl (hts _ kw_38) (hts _ kw_212) (by decide +kernel) ⟨Nat.le_of_ble_eq_true rfl, Nat.le_of_ble_eq_true rfl⟩, (hts _ kw_213)⟩ ⟨fun a U g mk q => by obtain ⟨q0, qP, qK⟩ := q; exact ⟨q0, qP, qK.call⟩, fun U hU hW => ⟨rfl, by rw [hU]; exact hP.sub [3] rfl, hKN.warm hW⟩⟩ rfl rfl hl.1 rfl (lv_room (Nat.le_of_ble_eq_true rfl)) d_TS_fault_25 ⟨Nat.zero_le _, Nat.zero_le _⟩) ?_
      exact W.iret (v := (wrong (fun i => pk ((j * 17) + i)) (nd 1))) hx hb hr (fun t ht hW => ⟨_, rfl, (by rw [flt, hjp, nI_clamp (by omega)]; rfl), ht⟩) (fun q h => by cases h) d_TS_fault_28
    · simp [hjp] at h_1
  · refine lv_aload_n hx hb d_TS_fault_0 rfl (lv_at hl 0 rfl) ?_
    refine lv_iload_n hx hb d_TS_fault_1 rfl (lv_at hl 1 rfl) ?_
    refine pr_call (va_runV (As := [.int v]) (rest := []) ⟨hx, hb, hml, hown, hts⟩ (c_TS_isPackage l dC dI cI (ht := ht) (v := v) (hm := hm) (hs := hs) (hp := hp) (cn := cn) (rn := rn) (tr := tr) (he := he) (ec := ec) (me := me) ) ⟨callB_of 1 hts (gd kw_203) rfl rfl rfl (hts _ kw_35) (hts _ kw_200) (by decide +kernel) ⟨Nat.le_of_ble_eq_true rfl, Nat.le_of_ble_eq_true rfl⟩, (hts _ kw_202), (hts _ kw_3)⟩ ⟨fun a U g mk q => by obtain ⟨q0, qP, qK⟩ := q; exact ⟨q0, qP, qK.call⟩, va_recv hK hP (ci := 0) rfl (q0 := 0) rfl, fun U hU hW => ⟨rfl, by rw [hU]; exact hP.sub [0] rfl, hKN.warm hW⟩⟩ rfl rfl hl.1 rfl (lv_room (Nat.le_of_ble_eq_true rfl)) d_TS_fault_2 ⟨Nat.zero_le _, Nat.zero_le _⟩) ?_
    refine bz_ne (tgt := 10) hx hb d_TS_fault_5 (by decide) (fun h_2 => ?_) (fun h_2 => ?_)
    · simp [hbad] at h_2
    · refine lv_iconst (v := (-1)) hx hb d_TS_fault_8 (by decide) ?_
      exact W.iret (v := (-1)) hx hb hr (fun t ht hW => ⟨_, rfl, (by rw [flt, hbad]; rfl), ht⟩) (fun q h => by cases h) d_TS_fault_9
set_option maxHeartbeats 4000000 in
set_option maxRecDepth 100000 in
theorem c_TS_word (l : Launch) (dC : Nat → ClassId) (dI : Nat → Nat → Nat) (cI : ClassId) (ht : Nat) (v : Int32) (w : Int32) (hm : Nat) (hs : Nat) (hp : Nat) (cn : Nat) (rn : Int32) (tr : Bool) (he : Nat) (ec : Nat) (me : Int32) (pk : Nat → Int32) (hcn : cn ≤ 7) : Met l y_TS_word w_TS_word ({ frames := 2, cells := 0, slots := 0, locals := 43 }) (va_Pc [.ref ht, .int v, .int w] (fun U => va_P (dC, dI) classes [(ht, .inr (0, [.ref hm, .ref hs, .ref hp, .int (nI cn), .int rn, .int (bI tr), .ref he, .int (nI ec), .int me])), (hp, .inl (cI, 119, .inl pk))] U.heap ∧ KN dC dI cI U)) (qr (wrd v w cn pk)) 0 0 (fun _ => False) := by
  refine Met.ofW (cc := b_TS_word) (maxL := 3) (ret := (some .int)) (by decide) rfl ?_
  intro p e s m args below meth c s₁ B hml hv
  obtain ⟨rfl, hP, hKN⟩ := hv
  have hK := hKN.1
  have hx := B.exec
  have hb := B.bytes
  have hr := B.returns
  have hts := fun (w : Cond) (h : w ∈ gt) => atoms_spec (ws := w_TS_word) B.pre w (List.mem_cons_of_mem _ h)
  have hown : s.vm.findClass R_TS = some m.cls := findClass_of_methodNamed B.named
  have hlocks := B.notSynchronized
  have hl := lv_entry ([.ref ht, .int v, .int w]) (n := 3) (Nat.le_of_ble_eq_true rfl)
  rw [lg_entry_eq]
  generalize (lg_sl ([.ref ht, .int v, .int w]) ++ List.replicate (3 - (lg_sl ([.ref ht, .int v, .int w])).length) Slot.unset).toArray = ls at hl ⊢
  have hl : lv_has ls 3 [(0, .ref ht), (1, .int v), (2, .int w)] := hl
  rcases pw_or (v := v) (w := w) (n := cn) (by omega) with ⟨j, i, hj, hi, rfl, rfl, hjp⟩ | hbad
  · refine lv_aload_n hx hb d_TS_word_0 rfl (lv_at hl 0 rfl) ?_
    refine lv_iload_n hx hb d_TS_word_1 rfl (lv_at hl 1 rfl) ?_
    refine lv_iload_n hx hb d_TS_word_2 rfl (lv_at hl 2 rfl) ?_
    refine pr_call (va_runV (As := [.int (nI j), .int (nI i)]) (rest := []) ⟨hx, hb, hml, hown, hts⟩ (c_TS_isPackageWord l dC dI cI (ht := ht) (v := (nI j)) (w := (nI i)) (hm := hm) (hs := hs) (hp := hp) (cn := cn) (rn := rn) (tr := tr) (he := he) (ec := ec) (me := me) ) ⟨callB_of 2 hts (gd kw_199) rfl rfl rfl (hts _ kw_35) (hts _ kw_196) (by decide +kernel) ⟨Nat.le_of_ble_eq_true rfl, Nat.le_of_ble_eq_true rfl⟩, (hts _ kw_198), (hts _ kw_2)⟩ ⟨fun a U g mk q => by obtain ⟨q0, qP, qK⟩ := q; exact ⟨q0, qP, qK.call⟩, va_recv hK hP (ci := 0) rfl (q0 := 0) rfl, fun U hU hW => ⟨rfl, by rw [hU]; exact hP.sub [0] rfl, hKN.warm hW⟩⟩ rfl rfl hl.1 rfl (lv_room (Nat.le_of_ble_eq_true rfl)) d_TS_word_3 ⟨Nat.zero_le _, Nat.zero_le _⟩) ?_
    refine bz_eq (tgt := 23) hx hb d_TS_word_6 (by decide) (fun h_1 => ?_) (fun h_1 => ?_)
    · simp [hjp] at h_1
    · refine lv_aload_n hx hb d_TS_word_9 rfl (lv_at hl 0 rfl) ?_
      refine va_get (D := (dC, dI)) (ci := 0) (v := .ref hp) (C := R_TS) (T := F_TS) (N := 9) hx hb hts in_TS hown hK hP 0 rfl rfl 2 (by decide) (hts _ kw_144) (fun _ h9 => h9) rfl d_TS_word_10 ?_
      refine lv_iload_n hx hb d_TS_word_13 rfl (lv_at hl 1 rfl) ?_
      refine pr_call (va_runS (As := [.int (nI j)]) (rest := [.ref hp]) ⟨hx, hb, hml, hown, hts⟩ (c_TS_packagePlace l dC dI cI (k := j) ) ⟨callB_of 1 hts (gd kw_191) rfl rfl rfl (hts _ kw_35) (hts _ kw_189) (by decide +kernel) ⟨Nat.le_of_ble_eq_true rfl, Nat.le_of_ble_eq_true rfl⟩, (hts _ kw_190)⟩ ⟨fun a U g mk q => by obtain ⟨q0, qP, qK⟩ := q; exact ⟨q0, qP, qK.call⟩, fun U hU hW => ⟨rfl, by rw [hU]; exact hP.sub [] rfl, hKN.warm hW⟩⟩ rfl rfl hl.1 rfl (lv_room (Nat.le_of_ble_eq_true rfl)) d_TS_word_14 ⟨Nat.zero_le _, Nat.zero_le _⟩) ?_
      refine lv_iload_n hx hb d_TS_word_17 rfl (lv_at hl 2 rfl) ?_
      refine lv_iadd hx hb d_TS_word_18 ?_
      refine tp (nI_add _ _) ?_
      refine ar_ld (k := (j * 17) + i) hx hb hK hP 1 0 rfl rfl (by omega) (by first | decide | omega) d_TS_word_19 ?_
      refine lv_goto (tgt := 24) hx hb d_TS_word_20 (by decide) ?_
      exact W.iret (v := (pk ((j * 17) + i))) hx hb hr (fun t ht hW => ⟨_, rfl, (by rw [wrd, hjp, nI_clamp (by omega), nI_clamp (by omega)]; rfl), ht⟩) (fun q h => by cases h) d_TS_word_24
  · refine lv_aload_n hx hb d_TS_word_0 rfl (lv_at hl 0 rfl) ?_
    refine lv_iload_n hx hb d_TS_word_1 rfl (lv_at hl 1 rfl) ?_
    refine lv_iload_n hx hb d_TS_word_2 rfl (lv_at hl 2 rfl) ?_
    refine pr_call (va_runV (As := [.int v, .int w]) (rest := []) ⟨hx, hb, hml, hown, hts⟩ (c_TS_isPackageWord l dC dI cI (ht := ht) (v := v) (w := w) (hm := hm) (hs := hs) (hp := hp) (cn := cn) (rn := rn) (tr := tr) (he := he) (ec := ec) (me := me) ) ⟨callB_of 2 hts (gd kw_199) rfl rfl rfl (hts _ kw_35) (hts _ kw_196) (by decide +kernel) ⟨Nat.le_of_ble_eq_true rfl, Nat.le_of_ble_eq_true rfl⟩, (hts _ kw_198), (hts _ kw_2)⟩ ⟨fun a U g mk q => by obtain ⟨q0, qP, qK⟩ := q; exact ⟨q0, qP, qK.call⟩, va_recv hK hP (ci := 0) rfl (q0 := 0) rfl, fun U hU hW => ⟨rfl, by rw [hU]; exact hP.sub [0] rfl, hKN.warm hW⟩⟩ rfl rfl hl.1 rfl (lv_room (Nat.le_of_ble_eq_true rfl)) d_TS_word_3 ⟨Nat.zero_le _, Nat.zero_le _⟩) ?_
    refine bz_eq (tgt := 23) hx hb d_TS_word_6 (by decide) (fun h_2 => ?_) (fun h_2 => ?_)
    · refine lv_iconst (v := (nI 0)) hx hb d_TS_word_23 (by decide) ?_
      exact W.iret (v := (nI 0)) hx hb hr (fun t ht hW => ⟨_, rfl, (by rw [wrd, hbad]; rfl), ht⟩) (fun q h => by cases h) d_TS_word_24
    · simp [hbad] at h_2
set_option maxHeartbeats 4000000 in
set_option maxRecDepth 100000 in
theorem c_TS_alter (l : Launch) (dC : Nat → ClassId) (dI : Nat → Nat → Nat) (cI : ClassId) (ht : Nat) (v : Int32) (w : Int32) (x : Int32) (hm : Nat) (hs : Nat) (hp : Nat) (cn : Nat) (rn : Int32) (tr : Bool) (he : Nat) (ec : Nat) (me : Int32) (pk : Nat → Int32) (hcn : cn ≤ 7) (sz : Nat) : Met l y_TS_alter w_TS_alter ({ frames := 2, cells := 0, slots := 0, locals := 43 }) (va_Pc [.ref ht, .int v, .int w, .int x] (fun U => U.heap.size = sz ∧ va_P (dC, dI) classes [(ht, .inr (0, [.ref hm, .ref hs, .ref hp, .int (nI cn), .int rn, .int (bI tr), .ref he, .int (nI ec), .int me])), (hp, .inl (cI, 119, .inl pk))] U.heap ∧ KN dC dI cI U ∧ va_D (fun _ => True) [(ht, .inr (0, [.ref hm, .ref hs, .ref hp, .int (nI cn), .int rn, .int (bI tr), .ref he, .int (nI ec), .int me])), (hp, .inl (cI, 119, .inl pk))])) (va_Qi (fun (r : Int32) (u : (Nat → Int32)) => ∃ res : Bool, r = bI res ∧ (alt v w x cn pk = (res, u))) (fun (u : (Nat → Int32)) t => va_P (dC, dI) classes [(ht, .inr (0, [.ref hm, .ref hs, .ref hp, .int (nI cn), .int rn, .int (bI tr), .ref he, .int (nI ec), .int me])), (hp, .inl (cI, 119, .inl u))] t.heap ∧ va_D (va_A [(ht, .inr (0, [.ref hm, .ref hs, .ref hp, .int (nI cn), .int rn, .int (bI tr), .ref he, .int (nI ec), .int me])), (hp, .inl (cI, 119, .inl pk))] sz) [(ht, .inr (0, [.ref hm, .ref hs, .ref hp, .int (nI cn), .int rn, .int (bI tr), .ref he, .int (nI ec), .int me])), (hp, .inl (cI, 119, .inl u))]) (va_A [(ht, .inr (0, [.ref hm, .ref hs, .ref hp, .int (nI cn), .int rn, .int (bI tr), .ref he, .int (nI ec), .int me])), (hp, .inl (cI, 119, .inl pk))] sz)) 0 0 (va_A [(ht, .inr (0, [.ref hm, .ref hs, .ref hp, .int (nI cn), .int rn, .int (bI tr), .ref he, .int (nI ec), .int me])), (hp, .inl (cI, 119, .inl pk))] sz) := by
  refine Met.ofW (cc := b_TS_alter) (maxL := 4) (ret := (some .boolean)) (by decide) rfl ?_
  intro p e s m args below meth c s₁ B hml hv
  obtain ⟨rfl, hsz, hP, hKN, hD0⟩ := hv
  have hK := hKN.1
  have hx := B.exec
  have hb := B.bytes
  have hr := B.returns
  have hts := fun (w : Cond) (h : w ∈ gt) => atoms_spec (ws := w_TS_alter) B.pre w (List.mem_cons_of_mem _ h)
  have hown : s.vm.findClass R_TS = some m.cls := findClass_of_methodNamed B.named
  have hlocks := B.notSynchronized
  subst hsz
  have hD := hD0.self (sz := s.heap.size)
  generalize hAe : va_A [(ht, .inr (0, [.ref hm, .ref hs, .ref hp, .int (nI cn), .int rn, .int (bI tr), .ref he, .int (nI ec), .int me])), (hp, .inl (cI, 119, .inl pk))] s.heap.size = A at hD ⊢
  have hA : ∀ q : Nat, s.heap.size ≤ q → A q := fun q h => by rw [← hAe]; exact Or.inr h
  have hS : va_S A s.heap s.heap [] := va_S.rf
  have hP : va_P (dC, dI) classes [(ht, .inr (0, [.ref hm, .ref hs, .ref hp, .int (nI cn), .int rn, .int (bI tr), .ref he, .int (nI ec), .int me])), (hp, .inl (cI, 119, .inl pk))] s.heap := hP
  clear hAe hD0
  have hl := lv_entry ([.ref ht, .int v, .int w, .int x]) (n := 4) (Nat.le_of_ble_eq_true rfl)
  rw [lg_entry_eq]
  generalize (lg_sl ([.ref ht, .int v, .int w, .int x]) ++ List.replicate (4 - (lg_sl ([.ref ht, .int v, .int w, .int x])).length) Slot.unset).toArray = ls at hl ⊢
  have hl : lv_has ls 4 [(0, .ref ht), (1, .int v), (2, .int w), (3, .int x)] := hl
  rcases pw_or (v := v) (w := w) (n := cn) (by omega) with ⟨j, i, hj, hi, rfl, rfl, hjp⟩ | hbad
  · refine lv_aload_n hx hb d_TS_alter_0 rfl (lv_at hl 0 rfl) ?_
    refine lv_iload_n hx hb d_TS_alter_1 rfl (lv_at hl 1 rfl) ?_
    refine lv_iload_n hx hb d_TS_alter_2 rfl (lv_at hl 2 rfl) ?_
    refine pr_call (va_runV (As := [.int (nI j), .int (nI i)]) (rest := []) ⟨hx, hb, hml, hown, hts⟩ (c_TS_isPackageWord l dC dI cI (ht := ht) (v := (nI j)) (w := (nI i)) (hm := hm) (hs := hs) (hp := hp) (cn := cn) (rn := rn) (tr := tr) (he := he) (ec := ec) (me := me) ) ⟨callB_of 2 hts (gd kw_199) rfl rfl rfl (hts _ kw_35) (hts _ kw_196) (by decide +kernel) ⟨Nat.le_of_ble_eq_true rfl, Nat.le_of_ble_eq_true rfl⟩, (hts _ kw_198), (hts _ kw_2)⟩ ⟨fun a U g mk q => by obtain ⟨q0, qP, qK⟩ := q; exact ⟨q0, qP, qK.call⟩, va_recv hK hP (ci := 0) rfl (q0 := 0) rfl, fun U hU hW => ⟨rfl, by rw [hU]; exact hP.sub [0] rfl, hKN.warm hW⟩⟩ rfl rfl hl.1 rfl (lv_room (Nat.le_of_ble_eq_true rfl)) d_TS_alter_3 ⟨Nat.zero_le _, Nat.zero_le _⟩) ?_
    refine bz_ne (tgt := 11) hx hb d_TS_alter_6 (by decide) (fun h_1 => ?_) (fun h_1 => ?_)
    · refine lv_aload_n hx hb d_TS_alter_11 rfl (lv_at hl 0 rfl) ?_
      refine va_get (D := (dC, dI)) (ci := 0) (v := .ref hp) (C := R_TS) (T := F_TS) (N := 9) hx hb hts in_TS hown hK hP 0 rfl rfl 2 (by decide) (hts _ kw_144) (fun _ h9 => h9) rfl d_TS_alter_12 ?_
      refine lv_iload_n hx hb d_TS_alter_15 rfl (lv_at hl 1 rfl) ?_
      refine pr_call (va_runS (As := [.int (nI j)]) (rest := [.ref hp]) ⟨hx, hb, hml, hown, hts⟩ (c_TS_packagePlace l dC dI cI (k := j) ) ⟨callB_of 1 hts (gd kw_191) rfl rfl rfl (hts _ kw_35) (hts _ kw_189) (by decide +kernel) ⟨Nat.le_of_ble_eq_true rfl, Nat.le_of_ble_eq_true rfl⟩, (hts _ kw_190)⟩ ⟨fun a U g mk q => by obtain ⟨q0, qP, qK⟩ := q; exact ⟨q0, qP, qK.call⟩, fun U hU hW => ⟨rfl, by rw [hU]; exact hP.sub [] rfl, hKN.warm hW⟩⟩ rfl rfl hl.1 rfl (lv_room (Nat.le_of_ble_eq_true rfl)) d_TS_alter_16 ⟨Nat.zero_le _, Nat.zero_le _⟩) ?_
      refine lv_iload_n hx hb d_TS_alter_19 rfl (lv_at hl 2 rfl) ?_
      refine lv_iadd hx hb d_TS_alter_20 ?_
      refine tp (nI_add _ _) ?_
      refine lv_iload_n hx hb d_TS_alter_21 rfl (lv_at hl 3 rfl) ?_
      refine ar_st (k := (j * 17) + i) hx hb hK hP hD hS 1 0 rfl rfl (by omega) (by first | decide | omega) d_TS_alter_22 (fun H locs hP hD hS => ?_)
      have hP : va_P (dC, dI) classes [(ht, .inr (0, [.ref hm, .ref hs, .ref hp, .int (nI cn), .int rn, .int (bI tr), .ref he, .int (nI ec), .int me])), (hp, .inl (cI, 119, .inl (upd pk ((j * 17) + i) x)))] H := hP
      have hD : va_D A [(ht, .inr (0, [.ref hm, .ref hs, .ref hp, .int (nI cn), .int rn, .int (bI tr), .ref he, .int (nI ec), .int me])), (hp, .inl (cI, 119, .inl (upd pk ((j * 17) + i) x)))] := hD
      refine lv_iconst (v := (nI 1)) hx hb d_TS_alter_23 (by decide) ?_
      exact W.zret (v := (bI true)) hx hb hr (bI_narrow _) (fun t ht hW => ⟨⟨_, (upd pk ((j * 17) + i) x), rfl, ⟨true, rfl, (by rw [alt, hjp, nI_clamp (by omega), nI_clamp (by omega)]; rfl)⟩, by rw [ht]; exact hP, hD⟩, hS.F ht⟩) hS.2.2 d_TS_alter_24
    · simp [hjp] at h_1
  · refine lv_aload_n hx hb d_TS_alter_0 rfl (lv_at hl 0 rfl) ?_
    refine lv_iload_n hx hb d_TS_alter_1 rfl (lv_at hl 1 rfl) ?_
    refine lv_iload_n hx hb d_TS_alter_2 rfl (lv_at hl 2 rfl) ?_
    refine pr_call (va_runV (As := [.int v, .int w]) (rest := []) ⟨hx, hb, hml, hown, hts⟩ (c_TS_isPackageWord l dC dI cI (ht := ht) (v := v) (w := w) (hm := hm) (hs := hs) (hp := hp) (cn := cn) (rn := rn) (tr := tr) (he := he) (ec := ec) (me := me) ) ⟨callB_of 2 hts (gd kw_199) rfl rfl rfl (hts _ kw_35) (hts _ kw_196) (by decide +kernel) ⟨Nat.le_of_ble_eq_true rfl, Nat.le_of_ble_eq_true rfl⟩, (hts _ kw_198), (hts _ kw_2)⟩ ⟨fun a U g mk q => by obtain ⟨q0, qP, qK⟩ := q; exact ⟨q0, qP, qK.call⟩, va_recv hK hP (ci := 0) rfl (q0 := 0) rfl, fun U hU hW => ⟨rfl, by rw [hU]; exact hP.sub [0] rfl, hKN.warm hW⟩⟩ rfl rfl hl.1 rfl (lv_room (Nat.le_of_ble_eq_true rfl)) d_TS_alter_3 ⟨Nat.zero_le _, Nat.zero_le _⟩) ?_
    refine bz_ne (tgt := 11) hx hb d_TS_alter_6 (by decide) (fun h_2 => ?_) (fun h_2 => ?_)
    · simp [hbad] at h_2
    · refine lv_iconst (v := (nI 0)) hx hb d_TS_alter_9 (by decide) ?_
      exact W.zret (v := (bI false)) hx hb hr (bI_narrow _) (fun t ht hW => ⟨⟨_, pk, rfl, ⟨false, rfl, (by rw [alt, hbad]; rfl)⟩, by rw [ht]; exact hP, hD⟩, hS.F ht⟩) hS.2.2 d_TS_alter_10
set_option maxHeartbeats 4000000 in
set_option maxRecDepth 100000 in
theorem c_TS_peek (l : Launch) (dC : Nat → ClassId) (dI : Nat → Nat → Nat) (cI : ClassId) (ht : Nat) (v : Int32) (hm : Nat) (hs : Nat) (hp : Nat) (cn : Nat) (rn : Int32) (tr : Bool) (he : Nat) (ec : Nat) (me : Int32) (hw : Nat) (bl : Nat) (dn : Int32) (lf : Int32) (M : Nat → Int32)  : Met l y_TS_peek w_TS_peek ({ frames := 1, cells := 0, slots := 0, locals := 20 }) (va_Pc [.ref ht, .int v] (fun U => va_P (dC, dI) classes [(ht, .inr (0, [.ref hm, .ref hs, .ref hp, .int (nI cn), .int rn, .int (bI tr), .ref he, .int (nI ec), .int me])), (hs, .inr (2, [.ref hw, .int (nI bl), .int dn, .int lf])), (hw, .inl (cI, 40, .inl M))] U.heap ∧ KN dC dI cI U)) (qr (pee v M)) 0 0 (fun _ => False) := by
  refine Met.ofW (cc := b_TS_peek) (maxL := 2) (ret := (some .int)) (by decide) rfl ?_
  intro p e s m args below meth c s₁ B hml hv
  obtain ⟨rfl, hP, hKN⟩ := hv
  have hK := hKN.1
  have hx := B.exec
  have hb := B.bytes
  have hr := B.returns
  have hts := fun (w : Cond) (h : w ∈ gt) => atoms_spec (ws := w_TS_peek) B.pre w (List.mem_cons_of_mem _ h)
  have hown : s.vm.findClass R_TS = some m.cls := findClass_of_methodNamed B.named
  have hlocks := B.notSynchronized
  have hl := lv_entry ([.ref ht, .int v]) (n := 2) (Nat.le_of_ble_eq_true rfl)
  rw [lg_entry_eq]
  generalize (lg_sl ([.ref ht, .int v]) ++ List.replicate (2 - (lg_sl ([.ref ht, .int v])).length) Slot.unset).toArray = ls at hl ⊢
  have hl : lv_has ls 2 [(0, .ref ht), (1, .int v)] := hl
  rcases pl_or v with ⟨j, hj, rfl, hjp⟩ | hbad
  · refine lv_iload_n hx hb d_TS_peek_0 rfl (lv_at hl 1 rfl) ?_
    refine pr_call (va_runS (As := [.int (nI j)]) (rest := []) ⟨hx, hb, hml, hown, hts⟩ (c_St_isPlace l dC dI cI (v := (nI j)) ) ⟨callB_of 1 hts (gd kw_375) rfl rfl rfl (hts _ kw_39) (hts _ kw_373) (by decide +kernel) ⟨Nat.le_of_ble_eq_true rfl, Nat.le_of_ble_eq_true rfl⟩, (hts _ kw_374)⟩ ⟨fun a U g mk q => by obtain ⟨q0, qP, qK⟩ := q; exact ⟨q0, qP, qK.call⟩, fun U hU hW => ⟨rfl, by rw [hU]; exact hP.sub [] rfl, hKN.warm hW⟩⟩ rfl rfl hl.1 rfl (lv_room (Nat.le_of_ble_eq_true rfl)) d_TS_peek_1 ⟨Nat.zero_le _, Nat.zero_le _⟩) ?_
    refine bz_eq (tgt := 19) hx hb d_TS_peek_4 (by decide) (fun h_1 => ?_) (fun h_1 => ?_)
    · simp [hjp] at h_1
    · refine lv_aload_n hx hb d_TS_peek_7 rfl (lv_at hl 0 rfl) ?_
      refine va_get (D := (dC, dI)) (ci := 0) (v := .ref hs) (C := R_TS) (T := F_TS) (N := 9) hx hb hts in_TS hown hK hP 0 rfl rfl 1 (by decide) (hts _ kw_143) (fun _ h9 => h9) rfl d_TS_peek_8 ?_
      refine va_getN (D := (dC, dI)) (ci := 2) (v := .ref hw) (C := R_St) (T := F_St) (N := 4) hx hb hts in_St hown hK hP 1 rfl rfl 0 (by decide) (va_Nw.use rfl (nst_4 hKN.2)) (fun _ h9 => h9) rfl d_TS_peek_11 ?_
      refine lv_iload_n hx hb d_TS_peek_14 rfl (lv_at hl 1 rfl) ?_
      refine ar_ld (k := j) hx hb hK hP 2 0 rfl rfl (by omega) (by first | decide | omega) d_TS_peek_15 ?_
      refine lv_goto (tgt := 20) hx hb d_TS_peek_16 (by decide) ?_
      exact W.iret (v := (M j)) hx hb hr (fun t ht hW => ⟨_, rfl, (by rw [pee, hjp, nI_clamp (by omega)]; rfl), ht⟩) (fun q h => by cases h) d_TS_peek_20
  · refine lv_iload_n hx hb d_TS_peek_0 rfl (lv_at hl 1 rfl) ?_
    refine pr_call (va_runS (As := [.int v]) (rest := []) ⟨hx, hb, hml, hown, hts⟩ (c_St_isPlace l dC dI cI (v := v) ) ⟨callB_of 1 hts (gd kw_375) rfl rfl rfl (hts _ kw_39) (hts _ kw_373) (by decide +kernel) ⟨Nat.le_of_ble_eq_true rfl, Nat.le_of_ble_eq_true rfl⟩, (hts _ kw_374)⟩ ⟨fun a U g mk q => by obtain ⟨q0, qP, qK⟩ := q; exact ⟨q0, qP, qK.call⟩, fun U hU hW => ⟨rfl, by rw [hU]; exact hP.sub [] rfl, hKN.warm hW⟩⟩ rfl rfl hl.1 rfl (lv_room (Nat.le_of_ble_eq_true rfl)) d_TS_peek_1 ⟨Nat.zero_le _, Nat.zero_le _⟩) ?_
    refine bz_eq (tgt := 19) hx hb d_TS_peek_4 (by decide) (fun h_2 => ?_) (fun h_2 => ?_)
    · refine lv_iconst (v := (nI 0)) hx hb d_TS_peek_19 (by decide) ?_
      exact W.iret (v := (nI 0)) hx hb hr (fun t ht hW => ⟨_, rfl, (by rw [pee, hbad]; rfl), ht⟩) (fun q h => by cases h) d_TS_peek_20
    · simp [hbad] at h_2
set_option maxHeartbeats 4000000 in
set_option maxRecDepth 100000 in
theorem c_TS_poke (l : Launch) (dC : Nat → ClassId) (dI : Nat → Nat → Nat) (cI : ClassId) (ht : Nat) (v : Int32) (x : Int32) (hm : Nat) (hs : Nat) (hp : Nat) (cn : Nat) (rn : Int32) (tr : Bool) (he : Nat) (ec : Nat) (me : Int32) (hw : Nat) (bl : Nat) (dn : Int32) (lf : Int32) (M : Nat → Int32)  (sz : Nat) : Met l y_TS_poke w_TS_poke ({ frames := 1, cells := 0, slots := 0, locals := 20 }) (va_Pc [.ref ht, .int v, .int x] (fun U => U.heap.size = sz ∧ va_P (dC, dI) classes [(ht, .inr (0, [.ref hm, .ref hs, .ref hp, .int (nI cn), .int rn, .int (bI tr), .ref he, .int (nI ec), .int me])), (hs, .inr (2, [.ref hw, .int (nI bl), .int dn, .int lf])), (hw, .inl (cI, 40, .inl M))] U.heap ∧ KN dC dI cI U ∧ va_D (fun _ => True) [(ht, .inr (0, [.ref hm, .ref hs, .ref hp, .int (nI cn), .int rn, .int (bI tr), .ref he, .int (nI ec), .int me])), (hs, .inr (2, [.ref hw, .int (nI bl), .int dn, .int lf])), (hw, .inl (cI, 40, .inl M))])) (va_Qi (fun (r : Int32) (u : (Nat → Int32)) => ∃ res : Bool, r = bI res ∧ (pok v x M = (res, u))) (fun (u : (Nat → Int32)) t => va_P (dC, dI) classes [(ht, .inr (0, [.ref hm, .ref hs, .ref hp, .int (nI cn), .int rn, .int (bI tr), .ref he, .int (nI ec), .int me])), (hs, .inr (2, [.ref hw, .int (nI bl), .int dn, .int lf])), (hw, .inl (cI, 40, .inl u))] t.heap ∧ va_D (va_A [(ht, .inr (0, [.ref hm, .ref hs, .ref hp, .int (nI cn), .int rn, .int (bI tr), .ref he, .int (nI ec), .int me])), (hs, .inr (2, [.ref hw, .int (nI bl), .int dn, .int lf])), (hw, .inl (cI, 40, .inl M))] sz) [(ht, .inr (0, [.ref hm, .ref hs, .ref hp, .int (nI cn), .int rn, .int (bI tr), .ref he, .int (nI ec), .int me])), (hs, .inr (2, [.ref hw, .int (nI bl), .int dn, .int lf])), (hw, .inl (cI, 40, .inl u))]) (va_A [(ht, .inr (0, [.ref hm, .ref hs, .ref hp, .int (nI cn), .int rn, .int (bI tr), .ref he, .int (nI ec), .int me])), (hs, .inr (2, [.ref hw, .int (nI bl), .int dn, .int lf])), (hw, .inl (cI, 40, .inl M))] sz)) 0 0 (va_A [(ht, .inr (0, [.ref hm, .ref hs, .ref hp, .int (nI cn), .int rn, .int (bI tr), .ref he, .int (nI ec), .int me])), (hs, .inr (2, [.ref hw, .int (nI bl), .int dn, .int lf])), (hw, .inl (cI, 40, .inl M))] sz) := by
  refine Met.ofW (cc := b_TS_poke) (maxL := 3) (ret := (some .boolean)) (by decide) rfl ?_
  intro p e s m args below meth c s₁ B hml hv
  obtain ⟨rfl, hsz, hP, hKN, hD0⟩ := hv
  have hK := hKN.1
  have hx := B.exec
  have hb := B.bytes
  have hr := B.returns
  have hts := fun (w : Cond) (h : w ∈ gt) => atoms_spec (ws := w_TS_poke) B.pre w (List.mem_cons_of_mem _ h)
  have hown : s.vm.findClass R_TS = some m.cls := findClass_of_methodNamed B.named
  have hlocks := B.notSynchronized
  subst hsz
  have hD := hD0.self (sz := s.heap.size)
  generalize hAe : va_A [(ht, .inr (0, [.ref hm, .ref hs, .ref hp, .int (nI cn), .int rn, .int (bI tr), .ref he, .int (nI ec), .int me])), (hs, .inr (2, [.ref hw, .int (nI bl), .int dn, .int lf])), (hw, .inl (cI, 40, .inl M))] s.heap.size = A at hD ⊢
  have hA : ∀ q : Nat, s.heap.size ≤ q → A q := fun q h => by rw [← hAe]; exact Or.inr h
  have hS : va_S A s.heap s.heap [] := va_S.rf
  have hP : va_P (dC, dI) classes [(ht, .inr (0, [.ref hm, .ref hs, .ref hp, .int (nI cn), .int rn, .int (bI tr), .ref he, .int (nI ec), .int me])), (hs, .inr (2, [.ref hw, .int (nI bl), .int dn, .int lf])), (hw, .inl (cI, 40, .inl M))] s.heap := hP
  clear hAe hD0
  have hl := lv_entry ([.ref ht, .int v, .int x]) (n := 3) (Nat.le_of_ble_eq_true rfl)
  rw [lg_entry_eq]
  generalize (lg_sl ([.ref ht, .int v, .int x]) ++ List.replicate (3 - (lg_sl ([.ref ht, .int v, .int x])).length) Slot.unset).toArray = ls at hl ⊢
  have hl : lv_has ls 3 [(0, .ref ht), (1, .int v), (2, .int x)] := hl
  rcases pl_or v with ⟨j, hj, rfl, hjp⟩ | hbad
  · refine lv_iload_n hx hb d_TS_poke_0 rfl (lv_at hl 1 rfl) ?_
    refine pr_call (va_runS (As := [.int (nI j)]) (rest := []) ⟨hx, hb, hml, hown, hts⟩ (c_St_isPlace l dC dI cI (v := (nI j)) ) ⟨callB_of 1 hts (gd kw_375) rfl rfl rfl (hts _ kw_39) (hts _ kw_373) (by decide +kernel) ⟨Nat.le_of_ble_eq_true rfl, Nat.le_of_ble_eq_true rfl⟩, (hts _ kw_374)⟩ ⟨fun a U g mk q => by obtain ⟨q0, qP, qK⟩ := q; exact ⟨q0, qP, qK.call⟩, fun U hU hW => ⟨rfl, by rw [hU]; exact hP.sub [] rfl, hKN.warm hW⟩⟩ rfl rfl hl.1 rfl (lv_room (Nat.le_of_ble_eq_true rfl)) d_TS_poke_1 ⟨Nat.zero_le _, Nat.zero_le _⟩) ?_
    refine bz_ne (tgt := 9) hx hb d_TS_poke_4 (by decide) (fun h_1 => ?_) (fun h_1 => ?_)
    · refine lv_aload_n hx hb d_TS_poke_9 rfl (lv_at hl 0 rfl) ?_
      refine va_get (D := (dC, dI)) (ci := 0) (v := .ref hs) (C := R_TS) (T := F_TS) (N := 9) hx hb hts in_TS hown hK hP 0 rfl rfl 1 (by decide) (hts _ kw_143) (fun _ h9 => h9) rfl d_TS_poke_10 ?_
      refine va_getN (D := (dC, dI)) (ci := 2) (v := .ref hw) (C := R_St) (T := F_St) (N := 4) hx hb hts in_St hown hK hP 1 rfl rfl 0 (by decide) (va_Nw.use rfl (nst_4 hKN.2)) (fun _ h9 => h9) rfl d_TS_poke_13 ?_
      refine lv_iload_n hx hb d_TS_poke_16 rfl (lv_at hl 1 rfl) ?_
      refine lv_iload_n hx hb d_TS_poke_17 rfl (lv_at hl 2 rfl) ?_
      refine ar_st (k := j) hx hb hK hP hD hS 2 0 rfl rfl (by omega) (by first | decide | omega) d_TS_poke_18 (fun H locs hP hD hS => ?_)
      have hP : va_P (dC, dI) classes [(ht, .inr (0, [.ref hm, .ref hs, .ref hp, .int (nI cn), .int rn, .int (bI tr), .ref he, .int (nI ec), .int me])), (hs, .inr (2, [.ref hw, .int (nI bl), .int dn, .int lf])), (hw, .inl (cI, 40, .inl (upd M j x)))] H := hP
      have hD : va_D A [(ht, .inr (0, [.ref hm, .ref hs, .ref hp, .int (nI cn), .int rn, .int (bI tr), .ref he, .int (nI ec), .int me])), (hs, .inr (2, [.ref hw, .int (nI bl), .int dn, .int lf])), (hw, .inl (cI, 40, .inl (upd M j x)))] := hD
      refine lv_iconst (v := (nI 1)) hx hb d_TS_poke_19 (by decide) ?_
      exact W.zret (v := (bI true)) hx hb hr (bI_narrow _) (fun t ht hW => ⟨⟨_, (upd M j x), rfl, ⟨true, rfl, (by rw [pok, hjp, nI_clamp (by omega)]; rfl)⟩, by rw [ht]; exact hP, hD⟩, hS.F ht⟩) hS.2.2 d_TS_poke_20
    · simp [hjp] at h_1
  · refine lv_iload_n hx hb d_TS_poke_0 rfl (lv_at hl 1 rfl) ?_
    refine pr_call (va_runS (As := [.int v]) (rest := []) ⟨hx, hb, hml, hown, hts⟩ (c_St_isPlace l dC dI cI (v := v) ) ⟨callB_of 1 hts (gd kw_375) rfl rfl rfl (hts _ kw_39) (hts _ kw_373) (by decide +kernel) ⟨Nat.le_of_ble_eq_true rfl, Nat.le_of_ble_eq_true rfl⟩, (hts _ kw_374)⟩ ⟨fun a U g mk q => by obtain ⟨q0, qP, qK⟩ := q; exact ⟨q0, qP, qK.call⟩, fun U hU hW => ⟨rfl, by rw [hU]; exact hP.sub [] rfl, hKN.warm hW⟩⟩ rfl rfl hl.1 rfl (lv_room (Nat.le_of_ble_eq_true rfl)) d_TS_poke_1 ⟨Nat.zero_le _, Nat.zero_le _⟩) ?_
    refine bz_ne (tgt := 9) hx hb d_TS_poke_4 (by decide) (fun h_2 => ?_) (fun h_2 => ?_)
    · simp [hbad] at h_2
    · refine lv_iconst (v := (nI 0)) hx hb d_TS_poke_7 (by decide) ?_
      exact W.zret (v := (bI false)) hx hb hr (bI_narrow _) (fun t ht hW => ⟨⟨_, M, rfl, ⟨false, rfl, (by rw [pok, hbad]; rfl)⟩, by rw [ht]; exact hP, hD⟩, hS.F ht⟩) hS.2.2 d_TS_poke_8
set_option maxHeartbeats 4000000 in
set_option maxRecDepth 100000 in
theorem c_TS_cut (l : Launch) (dC : Nat → ClassId) (dI : Nat → Nat → Nat) (cI : ClassId) (ht : Nat) (v : Int32) (hm : Nat) (hs : Nat) (hp : Nat) (cn : Nat) (rn : Int32) (tr : Bool) (he : Nat) (ec : Nat) (me : Int32) (hw : Nat) (bl : Nat) (dn : Int32) (lf : Int32)  (sz : Nat) : Met l y_TS_cut w_TS_cut ({ frames := 0, cells := 0, slots := 0, locals := 0 }) (va_Pc [.ref ht, .int v] (fun U => U.heap.size = sz ∧ va_P (dC, dI) classes [(ht, .inr (0, [.ref hm, .ref hs, .ref hp, .int (nI cn), .int rn, .int (bI tr), .ref he, .int (nI ec), .int me])), (hs, .inr (2, [.ref hw, .int (nI bl), .int dn, .int lf]))] U.heap ∧ KN dC dI cI U ∧ va_D (fun _ => True) [(ht, .inr (0, [.ref hm, .ref hs, .ref hp, .int (nI cn), .int rn, .int (bI tr), .ref he, .int (nI ec), .int me])), (hs, .inr (2, [.ref hw, .int (nI bl), .int dn, .int lf]))])) (va_Qi (fun (r : Int32) (u : Int32) => ∃ res : Bool, r = bI res ∧ (cutS v lf = (res, u))) (fun (u : Int32) t => va_P (dC, dI) classes [(ht, .inr (0, [.ref hm, .ref hs, .ref hp, .int (nI cn), .int rn, .int (bI tr), .ref he, .int (nI ec), .int me])), (hs, .inr (2, [.ref hw, .int (nI bl), .int dn, .int u]))] t.heap ∧ va_D (va_A [(ht, .inr (0, [.ref hm, .ref hs, .ref hp, .int (nI cn), .int rn, .int (bI tr), .ref he, .int (nI ec), .int me])), (hs, .inr (2, [.ref hw, .int (nI bl), .int dn, .int lf]))] sz) [(ht, .inr (0, [.ref hm, .ref hs, .ref hp, .int (nI cn), .int rn, .int (bI tr), .ref he, .int (nI ec), .int me])), (hs, .inr (2, [.ref hw, .int (nI bl), .int dn, .int u]))]) (va_A [(ht, .inr (0, [.ref hm, .ref hs, .ref hp, .int (nI cn), .int rn, .int (bI tr), .ref he, .int (nI ec), .int me])), (hs, .inr (2, [.ref hw, .int (nI bl), .int dn, .int lf]))] sz)) 0 0 (va_A [(ht, .inr (0, [.ref hm, .ref hs, .ref hp, .int (nI cn), .int rn, .int (bI tr), .ref he, .int (nI ec), .int me])), (hs, .inr (2, [.ref hw, .int (nI bl), .int dn, .int lf]))] sz) := by
  refine Met.ofW (cc := b_TS_cut) (maxL := 2) (ret := (some .boolean)) (by decide) rfl ?_
  intro p e s m args below meth c s₁ B hml hv
  obtain ⟨rfl, hsz, hP, hKN, hD0⟩ := hv
  have hK := hKN.1
  have hx := B.exec
  have hb := B.bytes
  have hr := B.returns
  have hts := fun (w : Cond) (h : w ∈ gt) => atoms_spec (ws := w_TS_cut) B.pre w (List.mem_cons_of_mem _ h)
  have hown : s.vm.findClass R_TS = some m.cls := findClass_of_methodNamed B.named
  have hlocks := B.notSynchronized
  subst hsz
  have hD := hD0.self (sz := s.heap.size)
  generalize hAe : va_A [(ht, .inr (0, [.ref hm, .ref hs, .ref hp, .int (nI cn), .int rn, .int (bI tr), .ref he, .int (nI ec), .int me])), (hs, .inr (2, [.ref hw, .int (nI bl), .int dn, .int lf]))] s.heap.size = A at hD ⊢
  have hA : ∀ q : Nat, s.heap.size ≤ q → A q := fun q h => by rw [← hAe]; exact Or.inr h
  have hS : va_S A s.heap s.heap [] := va_S.rf
  have hP : va_P (dC, dI) classes [(ht, .inr (0, [.ref hm, .ref hs, .ref hp, .int (nI cn), .int rn, .int (bI tr), .ref he, .int (nI ec), .int me])), (hs, .inr (2, [.ref hw, .int (nI bl), .int dn, .int lf]))] s.heap := hP
  clear hAe hD0
  have hl := lv_entry ([.ref ht, .int v]) (n := 2) (Nat.le_of_ble_eq_true rfl)
  rw [lg_entry_eq]
  generalize (lg_sl ([.ref ht, .int v]) ++ List.replicate (2 - (lg_sl ([.ref ht, .int v])).length) Slot.unset).toArray = ls at hl ⊢
  have hl : lv_has ls 2 [(0, .ref ht), (1, .int v)] := hl
  refine lv_iload_n hx hb d_TS_cut_0 rfl (lv_at hl 1 rfl) ?_
  refine lv_iconst (v := (-1)) hx hb d_TS_cut_1 (by decide) ?_
  refine lv_icmp_ge (tgt := 7) hx hb d_TS_cut_2 (by decide) (fun h_1 => ?_) (fun h_1 => ?_)
  · refine lv_aload_n hx hb d_TS_cut_7 rfl (lv_at hl 0 rfl) ?_
    refine va_get (D := (dC, dI)) (ci := 0) (v := .ref hs) (C := R_TS) (T := F_TS) (N := 9) hx hb hts in_TS hown hK hP 0 rfl rfl 1 (by decide) (hts _ kw_143) (fun _ h9 => h9) rfl d_TS_cut_8 ?_
    refine lv_iload_n hx hb d_TS_cut_11 rfl (lv_at hl 1 rfl) ?_
    refine va_putN (D := (dC, dI)) (ci := 2) (v := .int v) (ty := .int) (C := R_St) (T := F_St) (N := 4) hx hb hts in_St t_St t_St_ok n_St hown hK hP hD hS 1 rfl rfl 3 (by decide) (va_Nw.use rfl (nst_7 hKN.2)) (fun _ h9 => h9) rfl (by decide +kernel) rfl rfl (Nat.le_of_ble_eq_true rfl) d_TS_cut_12 (fun H locs hP hD hS => ?_)
    have hP : va_P (dC, dI) classes [(ht, .inr (0, [.ref hm, .ref hs, .ref hp, .int (nI cn), .int rn, .int (bI tr), .ref he, .int (nI ec), .int me])), (hs, .inr (2, [.ref hw, .int (nI bl), .int dn, .int v]))] H := hP
    have hD : va_D A [(ht, .inr (0, [.ref hm, .ref hs, .ref hp, .int (nI cn), .int rn, .int (bI tr), .ref he, .int (nI ec), .int me])), (hs, .inr (2, [.ref hw, .int (nI bl), .int dn, .int v]))] := hD
    refine lv_iconst (v := (nI 1)) hx hb d_TS_cut_15 (by decide) ?_
    exact W.zret (v := (bI true)) hx hb hr (bI_narrow _) (fun t ht hW => ⟨⟨_, v, rfl, ⟨true, rfl, (by first | rfl | (simp only [cutS, if_pos h_1]; done) | (simp only [cutS, if_pos h_1]; rfl) | (simp [cutS, h_1]; done))⟩, by rw [ht]; exact hP, hD⟩, hS.F ht⟩) hS.2.2 d_TS_cut_16
  · refine lv_iconst (v := (nI 0)) hx hb d_TS_cut_5 (by decide) ?_
    exact W.zret (v := (bI false)) hx hb hr (bI_narrow _) (fun t ht hW => ⟨⟨_, lf, rfl, ⟨false, rfl, (by first | rfl | (simp only [cutS, if_neg h_1]; done) | (simp only [cutS, if_neg h_1]; rfl) | (simp [cutS, h_1]; done))⟩, by rw [ht]; exact hP, hD⟩, hS.F ht⟩) hS.2.2 d_TS_cut_6
set_option maxHeartbeats 4000000 in
set_option maxRecDepth 100000 in
theorem c_TS_log (l : Launch) (dC : Nat → ClassId) (dI : Nat → Nat → Nat) (cI : ClassId) (ht : Nat) (v : Int32) (hm : Nat) (hs : Nat) (hp : Nat) (cn : Nat) (rn : Int32) (tr : Bool) (he : Nat) (ec : Nat) (me : Int32) (en : Nat → Int32) (hec : ec ≤ 3) : Met l y_TS_log w_TS_log ({ frames := 0, cells := 0, slots := 0, locals := 0 }) (va_Pc [.ref ht, .int v] (fun U => va_P (dC, dI) classes [(ht, .inr (0, [.ref hm, .ref hs, .ref hp, .int (nI cn), .int rn, .int (bI tr), .ref he, .int (nI ec), .int me])), (he, .inl (cI, 3, .inl en))] U.heap ∧ KN dC dI cI U)) (qr (lgv v ec en)) 0 0 (fun _ => False) := by
  refine Met.ofW (cc := b_TS_log) (maxL := 2) (ret := (some .int)) (by decide) rfl ?_
  intro p e s m args below meth c s₁ B hml hv
  obtain ⟨rfl, hP, hKN⟩ := hv
  have hK := hKN.1
  have hx := B.exec
  have hb := B.bytes
  have hr := B.returns
  have hts := fun (w : Cond) (h : w ∈ gt) => atoms_spec (ws := w_TS_log) B.pre w (List.mem_cons_of_mem _ h)
  have hown : s.vm.findClass R_TS = some m.cls := findClass_of_methodNamed B.named
  have hlocks := B.notSynchronized
  have hl := lv_entry ([.ref ht, .int v]) (n := 2) (Nat.le_of_ble_eq_true rfl)
  rw [lg_entry_eq]
  generalize (lg_sl ([.ref ht, .int v]) ++ List.replicate (2 - (lg_sl ([.ref ht, .int v])).length) Slot.unset).toArray = ls at hl ⊢
  have hl : lv_has ls 2 [(0, .ref ht), (1, .int v)] := hl
  rcases lg_or (v := v) (n := ec) (by omega) with rfl | ⟨j, hj, rfl⟩ | ⟨hn, hbad⟩
  · refine lv_iload_n hx hb d_TS_log_0 rfl (lv_at hl 1 rfl) ?_
    refine lv_iconst (v := (-1)) hx hb d_TS_log_1 (by decide) ?_
    refine lv_icmp_ne (tgt := 10) hx hb d_TS_log_2 (by decide) (fun h_1 => ?_) (fun h_1 => ?_)
    · exact absurd h_1 (by decide)
    · refine lv_aload_n hx hb d_TS_log_5 rfl (lv_at hl 0 rfl) ?_
      refine va_get (D := (dC, dI)) (ci := 0) (v := .int (nI ec)) (C := R_TS) (T := F_TS) (N := 9) hx hb hts in_TS hown hK hP 0 rfl rfl 7 (by decide) (hts _ kw_149) (fun _ h9 => h9) rfl d_TS_log_6 ?_
      exact W.iret (v := (nI ec)) hx hb hr (fun t ht hW => ⟨_, rfl, (by rfl), ht⟩) (fun q h => by cases h) d_TS_log_9
  · refine lv_iload_n hx hb d_TS_log_0 rfl (lv_at hl 1 rfl) ?_
    refine lv_iconst (v := (-1)) hx hb d_TS_log_1 (by decide) ?_
    refine lv_icmp_ne (tgt := 10) hx hb d_TS_log_2 (by decide) (fun h_2 => ?_) (fun h_2 => ?_)
    · refine lv_iload_n hx hb d_TS_log_10 rfl (lv_at hl 1 rfl) ?_
      refine nz_lt (tgt := 31) hx hb d_TS_log_11 (by decide) (by omega) ?_
      refine lv_iload_n hx hb d_TS_log_14 rfl (lv_at hl 1 rfl) ?_
      refine lv_aload_n hx hb d_TS_log_15 rfl (lv_at hl 0 rfl) ?_
      refine va_get (D := (dC, dI)) (ci := 0) (v := .int (nI ec)) (C := R_TS) (T := F_TS) (N := 9) hx hb hts in_TS hown hK hP 0 rfl rfl 7 (by decide) (hts _ kw_149) (fun _ h9 => h9) rfl d_TS_log_16 ?_
      refine nb_ge (tgt := 31) hx hb d_TS_log_19 (by decide) (by first | omega | exact Nat.lt_of_lt_of_le (stt_lt _ _) (by decide)) (by first | omega | exact Nat.lt_of_lt_of_le (stt_lt _ _) (by decide)) (fun h_4 => ?_) (fun h_4 => ?_)
      · omega
      · refine lv_aload_n hx hb d_TS_log_22 rfl (lv_at hl 0 rfl) ?_
        refine va_get (D := (dC, dI)) (ci := 0) (v := .ref he) (C := R_TS) (T := F_TS) (N := 9) hx hb hts in_TS hown hK hP 0 rfl rfl 6 (by decide) (hts _ kw_148) (fun _ h9 => h9) rfl d_TS_log_23 ?_
        refine lv_iload_n hx hb d_TS_log_26 rfl (lv_at hl 1 rfl) ?_
        refine ar_ld (k := j) hx hb hK hP 1 0 rfl rfl (by omega) (by first | decide | omega) d_TS_log_27 ?_
        refine lv_goto (tgt := 32) hx hb d_TS_log_28 (by decide) ?_
        exact W.iret (v := (en j)) hx hb hr (fun t ht hW => ⟨_, rfl, (by rw [lgv_in hj (by omega)]), ht⟩) (fun q h => by cases h) d_TS_log_32
    · exact absurd h_2 (nI_m1 (by omega))
  · refine lv_iload_n hx hb d_TS_log_0 rfl (lv_at hl 1 rfl) ?_
    refine lv_iconst (v := (-1)) hx hb d_TS_log_1 (by decide) ?_
    refine lv_icmp_ne (tgt := 10) hx hb d_TS_log_2 (by decide) (fun h_5 => ?_) (fun h_5 => ?_)
    · refine lv_iload_n hx hb d_TS_log_10 rfl (lv_at hl 1 rfl) ?_
      refine lv_if_lt (tgt := 31) hx hb d_TS_log_11 (by decide) (fun h_6 => ?_) (fun h_6 => ?_)
      · refine lv_iconst (v := (nI 0)) hx hb d_TS_log_31 (by decide) ?_
        exact W.iret (v := (nI 0)) hx hb hr (fun t ht hW => ⟨_, rfl, (by rw [lgv_out hn hbad]), ht⟩) (fun q h => by cases h) d_TS_log_32
      · refine lv_iload_n hx hb d_TS_log_14 rfl (lv_at hl 1 rfl) ?_
        refine lv_aload_n hx hb d_TS_log_15 rfl (lv_at hl 0 rfl) ?_
        refine va_get (D := (dC, dI)) (ci := 0) (v := .int (nI ec)) (C := R_TS) (T := F_TS) (N := 9) hx hb hts in_TS hown hK hP 0 rfl rfl 7 (by decide) (hts _ kw_149) (fun _ h9 => h9) rfl d_TS_log_16 ?_
        refine lv_icmp_ge (tgt := 31) hx hb d_TS_log_19 (by decide) (fun h_7 => ?_) (fun h_7 => ?_)
        · refine lv_iconst (v := (nI 0)) hx hb d_TS_log_31 (by decide) ?_
          exact W.iret (v := (nI 0)) hx hb hr (fun t ht hW => ⟨_, rfl, (by rw [lgv_out hn hbad]), ht⟩) (fun q h => by cases h) d_TS_log_32
        · exact hbad.elim (fun z => absurd z h_6) (fun z => absurd z h_7)
    · exact absurd h_5 hn
set_option maxHeartbeats 4000000 in
set_option maxRecDepth 100000 in
theorem c_TS_forgetStages (l : Launch) (dC : Nat → ClassId) (dI : Nat → Nat → Nat) (cI : ClassId) (ht : Nat) (hm : Nat) (hs : Nat) (hp : Nat) (cn : Nat) (rn : Int32) (tr : Bool) (he : Nat) (ec : Nat) (me : Int32)  (sz : Nat) : Met l y_TS_forgetStages w_TS_forgetStages ({ frames := 0, cells := 0, slots := 0, locals := 0 }) (va_Pc [.ref ht] (fun U => U.heap.size = sz ∧ va_P (dC, dI) classes [(ht, .inr (0, [.ref hm, .ref hs, .ref hp, .int (nI cn), .int rn, .int (bI tr), .ref he, .int (nI ec), .int me]))] U.heap ∧ KN dC dI cI U ∧ va_D (fun _ => True) [(ht, .inr (0, [.ref hm, .ref hs, .ref hp, .int (nI cn), .int rn, .int (bI tr), .ref he, .int (nI ec), .int me]))])) (va_Qv (fun u : Nat × Int32 => (0, nI 0) = u) (fun (u : Nat × Int32) t => va_P (dC, dI) classes [(ht, .inr (0, [.ref hm, .ref hs, .ref hp, .int (nI cn), .int rn, .int (bI tr), .ref he, .int (nI u.1), .int u.2]))] t.heap ∧ va_D (va_A [(ht, .inr (0, [.ref hm, .ref hs, .ref hp, .int (nI cn), .int rn, .int (bI tr), .ref he, .int (nI ec), .int me]))] sz) [(ht, .inr (0, [.ref hm, .ref hs, .ref hp, .int (nI cn), .int rn, .int (bI tr), .ref he, .int (nI u.1), .int u.2]))]) (va_A [(ht, .inr (0, [.ref hm, .ref hs, .ref hp, .int (nI cn), .int rn, .int (bI tr), .ref he, .int (nI ec), .int me]))] sz)) 0 0 (va_A [(ht, .inr (0, [.ref hm, .ref hs, .ref hp, .int (nI cn), .int rn, .int (bI tr), .ref he, .int (nI ec), .int me]))] sz) := by
  refine Met.ofW (cc := b_TS_forgetStages) (maxL := 1) (ret := none) (by decide) rfl ?_
  intro p e s m args below meth c s₁ B hml hv
  obtain ⟨rfl, hsz, hP, hKN, hD0⟩ := hv
  have hK := hKN.1
  have hx := B.exec
  have hb := B.bytes
  have hr := B.returns
  have hts := fun (w : Cond) (h : w ∈ gt) => atoms_spec (ws := w_TS_forgetStages) B.pre w (List.mem_cons_of_mem _ h)
  have hown : s.vm.findClass R_TS = some m.cls := findClass_of_methodNamed B.named
  have hlocks := B.notSynchronized
  subst hsz
  have hD := hD0.self (sz := s.heap.size)
  generalize hAe : va_A [(ht, .inr (0, [.ref hm, .ref hs, .ref hp, .int (nI cn), .int rn, .int (bI tr), .ref he, .int (nI ec), .int me]))] s.heap.size = A at hD ⊢
  have hA : ∀ q : Nat, s.heap.size ≤ q → A q := fun q h => by rw [← hAe]; exact Or.inr h
  have hS : va_S A s.heap s.heap [] := va_S.rf
  have hP : va_P (dC, dI) classes [(ht, .inr (0, [.ref hm, .ref hs, .ref hp, .int (nI cn), .int rn, .int (bI tr), .ref he, .int (nI ec), .int me]))] s.heap := hP
  clear hAe hD0
  have hl := lv_entry ([.ref ht]) (n := 1) (Nat.le_of_ble_eq_true rfl)
  rw [lg_entry_eq]
  generalize (lg_sl ([.ref ht]) ++ List.replicate (1 - (lg_sl ([.ref ht])).length) Slot.unset).toArray = ls at hl ⊢
  have hl : lv_has ls 1 [(0, .ref ht)] := hl
  refine lv_aload_n hx hb d_TS_forgetStages_0 rfl (lv_at hl 0 rfl) ?_
  refine lv_iconst (v := (nI 0)) hx hb d_TS_forgetStages_1 (by decide) ?_
  refine va_put (D := (dC, dI)) (ci := 0) (v := .int (nI 0)) (ty := .int) (C := R_TS) (T := F_TS) (N := 9) hx hb hts in_TS t_TS t_TS_ok n_TS hown hK hP hD hS 0 rfl rfl 7 (by decide) (hts _ kw_149) (fun _ h9 => h9) rfl (by decide +kernel) rfl rfl (Nat.le_of_ble_eq_true rfl) d_TS_forgetStages_2 (fun H locs hP hD hS => ?_)
  have hP : va_P (dC, dI) classes [(ht, .inr (0, [.ref hm, .ref hs, .ref hp, .int (nI cn), .int rn, .int (bI tr), .ref he, .int (nI 0), .int me]))] H := hP
  have hD : va_D A [(ht, .inr (0, [.ref hm, .ref hs, .ref hp, .int (nI cn), .int rn, .int (bI tr), .ref he, .int (nI 0), .int me]))] := hD
  refine lv_aload_n hx hb d_TS_forgetStages_5 rfl (lv_at hl 0 rfl) ?_
  refine lv_iconst (v := (nI 0)) hx hb d_TS_forgetStages_6 (by decide) ?_
  refine va_put (D := (dC, dI)) (ci := 0) (v := .int (nI 0)) (ty := .int) (C := R_TS) (T := F_TS) (N := 9) hx hb hts in_TS t_TS t_TS_ok n_TS hown hK hP hD hS 0 rfl rfl 8 (by decide) (hts _ kw_150) (fun _ h9 => h9) rfl (by decide +kernel) rfl rfl (Nat.le_of_ble_eq_true rfl) d_TS_forgetStages_7 (fun H locs hP hD hS => ?_)
  have hP : va_P (dC, dI) classes [(ht, .inr (0, [.ref hm, .ref hs, .ref hp, .int (nI cn), .int rn, .int (bI tr), .ref he, .int (nI 0), .int (nI 0)]))] H := hP
  have hD : va_D A [(ht, .inr (0, [.ref hm, .ref hs, .ref hp, .int (nI cn), .int rn, .int (bI tr), .ref he, .int (nI 0), .int (nI 0)]))] := hD
  exact W.vret hx hb hr (fun t ht hW => ⟨⟨(0, (nI 0)), rfl, (by first | rfl | (simp only []; done) | (simp only []; rfl) | (simp []; done)), by rw [ht]; exact hP, hD⟩, hS.F ht⟩) hS.2.2 d_TS_forgetStages_10
set_option maxHeartbeats 4000000 in
set_option maxRecDepth 100000 in
theorem c_TS_stop (l : Launch) (dC : Nat → ClassId) (dI : Nat → Nat → Nat) (cI : ClassId) (ht : Nat) (hm : Nat) (hs : Nat) (hp : Nat) (cn : Nat) (rn : Int32) (tr : Bool) (he : Nat) (ec : Nat) (me : Int32)  (sz : Nat) : Met l y_TS_stop w_TS_stop ({ frames := 1, cells := 0, slots := 0, locals := 20 }) (va_Pc [.ref ht] (fun U => U.heap.size = sz ∧ va_P (dC, dI) classes [(ht, .inr (0, [.ref hm, .ref hs, .ref hp, .int (nI cn), .int rn, .int (bI tr), .ref he, .int (nI ec), .int me]))] U.heap ∧ KN dC dI cI U ∧ va_D (fun _ => True) [(ht, .inr (0, [.ref hm, .ref hs, .ref hp, .int (nI cn), .int rn, .int (bI tr), .ref he, .int (nI ec), .int me]))])) (va_Qv (fun u : Int32 × Bool × Nat × Int32 => ((-1 : Int32), false, 0, nI 0) = u) (fun (u : Int32 × Bool × Nat × Int32) t => va_P (dC, dI) classes [(ht, .inr (0, [.ref hm, .ref hs, .ref hp, .int (nI cn), .int u.1, .int (bI u.2.1), .ref he, .int (nI u.2.2.1), .int u.2.2.2]))] t.heap ∧ va_D (va_A [(ht, .inr (0, [.ref hm, .ref hs, .ref hp, .int (nI cn), .int rn, .int (bI tr), .ref he, .int (nI ec), .int me]))] sz) [(ht, .inr (0, [.ref hm, .ref hs, .ref hp, .int (nI cn), .int u.1, .int (bI u.2.1), .ref he, .int (nI u.2.2.1), .int u.2.2.2]))]) (va_A [(ht, .inr (0, [.ref hm, .ref hs, .ref hp, .int (nI cn), .int rn, .int (bI tr), .ref he, .int (nI ec), .int me]))] sz)) 0 0 (va_A [(ht, .inr (0, [.ref hm, .ref hs, .ref hp, .int (nI cn), .int rn, .int (bI tr), .ref he, .int (nI ec), .int me]))] sz) := by
  refine Met.ofW (cc := b_TS_stop) (maxL := 1) (ret := none) (by decide) rfl ?_
  intro p e s m args below meth c s₁ B hml hv
  obtain ⟨rfl, hsz, hP, hKN, hD0⟩ := hv
  have hK := hKN.1
  have hx := B.exec
  have hb := B.bytes
  have hr := B.returns
  have hts := fun (w : Cond) (h : w ∈ gt) => atoms_spec (ws := w_TS_stop) B.pre w (List.mem_cons_of_mem _ h)
  have hown : s.vm.findClass R_TS = some m.cls := findClass_of_methodNamed B.named
  have hlocks := B.notSynchronized
  subst hsz
  have hD := hD0.self (sz := s.heap.size)
  generalize hAe : va_A [(ht, .inr (0, [.ref hm, .ref hs, .ref hp, .int (nI cn), .int rn, .int (bI tr), .ref he, .int (nI ec), .int me]))] s.heap.size = A at hD ⊢
  have hA : ∀ q : Nat, s.heap.size ≤ q → A q := fun q h => by rw [← hAe]; exact Or.inr h
  have hS : va_S A s.heap s.heap [] := va_S.rf
  have hP : va_P (dC, dI) classes [(ht, .inr (0, [.ref hm, .ref hs, .ref hp, .int (nI cn), .int rn, .int (bI tr), .ref he, .int (nI ec), .int me]))] s.heap := hP
  clear hAe hD0
  have hl := lv_entry ([.ref ht]) (n := 1) (Nat.le_of_ble_eq_true rfl)
  rw [lg_entry_eq]
  generalize (lg_sl ([.ref ht]) ++ List.replicate (1 - (lg_sl ([.ref ht])).length) Slot.unset).toArray = ls at hl ⊢
  have hl : lv_has ls 1 [(0, .ref ht)] := hl
  refine lv_aload_n hx hb d_TS_stop_0 rfl (lv_at hl 0 rfl) ?_
  refine lv_iconst (v := (-1)) hx hb d_TS_stop_1 (by decide) ?_
  refine va_put (D := (dC, dI)) (ci := 0) (v := .int (-1)) (ty := .int) (C := R_TS) (T := F_TS) (N := 9) hx hb hts in_TS t_TS t_TS_ok n_TS hown hK hP hD hS 0 rfl rfl 4 (by decide) (hts _ kw_146) (fun _ h9 => h9) rfl (by decide +kernel) rfl rfl (Nat.le_of_ble_eq_true rfl) d_TS_stop_2 (fun H locs hP hD hS => ?_)
  have hP : va_P (dC, dI) classes [(ht, .inr (0, [.ref hm, .ref hs, .ref hp, .int (nI cn), .int (-1), .int (bI tr), .ref he, .int (nI ec), .int me]))] H := hP
  have hD : va_D A [(ht, .inr (0, [.ref hm, .ref hs, .ref hp, .int (nI cn), .int (-1), .int (bI tr), .ref he, .int (nI ec), .int me]))] := hD
  refine lv_aload_n hx hb d_TS_stop_5 rfl (lv_at hl 0 rfl) ?_
  refine lv_iconst (v := (nI 0)) hx hb d_TS_stop_6 (by decide) ?_
  refine va_put (D := (dC, dI)) (ci := 0) (v := .int (bI false)) (ty := .boolean) (C := R_TS) (T := F_TS) (N := 9) hx hb hts in_TS t_TS t_TS_ok n_TS hown hK hP hD hS 0 rfl rfl 5 (by decide) (hts _ kw_147) (fun _ h9 => h9) rfl (by decide +kernel) (bI_narrow _) (bI_fits _) (Nat.le_of_ble_eq_true rfl) d_TS_stop_7 (fun H locs hP hD hS => ?_)
  have hP : va_P (dC, dI) classes [(ht, .inr (0, [.ref hm, .ref hs, .ref hp, .int (nI cn), .int (-1), .int (bI false), .ref he, .int (nI ec), .int me]))] H := hP
  have hD : va_D A [(ht, .inr (0, [.ref hm, .ref hs, .ref hp, .int (nI cn), .int (-1), .int (bI false), .ref he, .int (nI ec), .int me]))] := hD
  refine lv_aload_n hx hb d_TS_stop_10 rfl (lv_at hl 0 rfl) ?_
  have hPc := hP.sub (ws' := [(ht, .inr (0, [.ref hm, .ref hs, .ref hp, .int (nI cn), .int (-1), .int (bI false), .ref he, .int (nI ec), .int me]))]) [0] rfl
  have hDc := hD.sub (ws' := [(ht, .inr (0, [.ref hm, .ref hs, .ref hp, .int (nI cn), .int (-1), .int (bI false), .ref he, .int (nI ec), .int me]))]) [0] (by decide) rfl
  have hFc := va_free (wc := [(ht, .inr (0, [.ref hm, .ref hs, .ref hp, .int (nI cn), .int (-1), .int (bI false), .ref he, .int (nI ec), .int me]))]) hD hS hA [0] rfl
  refine va_callv (va_runV (As := []) (rest := []) ⟨hx, hb, hml, hown, hts⟩ (c_TS_forgetStages l dC dI cI (ht := ht) (hm := hm) (hs := hs) (hp := hp) (cn := cn) (rn := (-1)) (tr := false) (he := he) (ec := ec) (me := me)  (sz := H.size)) ⟨callB_of 0 hts (gd kw_301) rfl rfl rfl (hts _ kw_35) (hts _ kw_298) (by decide +kernel) ⟨Nat.le_of_ble_eq_true rfl, Nat.le_of_ble_eq_true rfl⟩, (hts _ kw_300), (hts _ kw_11)⟩ ⟨fun a U g mk q => by obtain ⟨q0, q1, qP, qK, qD⟩ := q; exact ⟨q0, q1, qP, qK.call, qD⟩, va_recv hK hP (ci := 0) rfl (q0 := 0) rfl, fun U hU hW => ⟨rfl, by rw [hU], by rw [hU]; exact hPc, hKN.warm hW, hDc.weaken (fun _ _ _ _ => trivial)⟩⟩ rfl rfl hl.1 rfl (lv_room (Nat.le_of_ble_eq_true rfl)) d_TS_stop_11 ⟨Nat.zero_le _, Nat.zero_le _⟩) hS (fun q _ h => hFc q h) hFc (fun u t H1 locs zt zvm zw zB zz zk hS => ?_)
  obtain ⟨ec_1, me_1⟩ := u
  have hu_1 := zw
  simp only [Prod.mk.injEq] at hu_1
  obtain ⟨rfl, rfl⟩ := hu_1
  obtain ⟨hP1, hD1⟩ := zB
  rw [zt] at hP1
  have hP1 : va_P (dC, dI) classes [(ht, .inr (0, [.ref hm, .ref hs, .ref hp, .int (nI cn), .int (-1), .int (bI false), .ref he, .int (nI 0), .int (nI 0)]))] H1 := hP1
  obtain ⟨hP, hD⟩ := va_join (wc := [(ht, .inr (0, [.ref hm, .ref hs, .ref hp, .int (nI cn), .int (-1), .int (bI false), .ref he, .int (nI ec), .int me]))]) (wr := []) (w1 := [(ht, .inr (0, [.ref hm, .ref hs, .ref hp, .int (nI cn), .int (-1), .int (bI false), .ref he, .int (nI 0), .int (nI 0)]))]) hP hD [0] [] rfl rfl (by decide) (by decide) zk hFc hP1 hD1
  generalize H1 = H at hP hS ⊢
  have hP : va_P (dC, dI) classes [(ht, .inr (0, [.ref hm, .ref hs, .ref hp, .int (nI cn), .int (-1), .int (bI false), .ref he, .int (nI 0), .int (nI 0)]))] H := hP.sub [0] rfl
  have hD : va_D A [(ht, .inr (0, [.ref hm, .ref hs, .ref hp, .int (nI cn), .int (-1), .int (bI false), .ref he, .int (nI 0), .int (nI 0)]))] := hD.sub [0] (by decide) rfl
  clear hPc hDc hFc hP1 hD1 zk zz zvm zt
  exact W.vret hx hb hr (fun t ht hW => ⟨⟨((-1), false, 0, (nI 0)), rfl, (by first | rfl | (simp only []; done) | (simp only []; rfl) | (simp []; done)), by rw [ht]; exact hP, hD⟩, hS.F ht⟩) hS.2.2 d_TS_stop_14
set_option maxHeartbeats 4000000 in
set_option maxRecDepth 100000 in
theorem c_TS_powerLost (l : Launch) (dC : Nat → ClassId) (dI : Nat → Nat → Nat) (cI : ClassId) (ht : Nat) (hm : Nat) (hs : Nat) (hp : Nat) (cn : Nat) (rn : Int32) (tr : Bool) (he : Nat) (ec : Nat) (me : Int32)  (sz : Nat) : Met l y_TS_powerLost w_TS_powerLost ({ frames := 2, cells := 0, slots := 0, locals := 40 }) (va_Pc [.ref ht] (fun U => U.heap.size = sz ∧ va_P (dC, dI) classes [(ht, .inr (0, [.ref hm, .ref hs, .ref hp, .int (nI cn), .int rn, .int (bI tr), .ref he, .int (nI ec), .int me]))] U.heap ∧ KN dC dI cI U ∧ va_D (fun _ => True) [(ht, .inr (0, [.ref hm, .ref hs, .ref hp, .int (nI cn), .int rn, .int (bI tr), .ref he, .int (nI ec), .int me]))])) (va_Qi (fun (r : Int32) (u : Int32 × Bool × Nat × Int32) => ((-1 : Int32), (-1 : Int32), false, 0, nI 0) = (r, u)) (fun (u : Int32 × Bool × Nat × Int32) t => va_P (dC, dI) classes [(ht, .inr (0, [.ref hm, .ref hs, .ref hp, .int (nI cn), .int u.1, .int (bI u.2.1), .ref he, .int (nI u.2.2.1), .int u.2.2.2]))] t.heap ∧ va_D (va_A [(ht, .inr (0, [.ref hm, .ref hs, .ref hp, .int (nI cn), .int rn, .int (bI tr), .ref he, .int (nI ec), .int me]))] sz) [(ht, .inr (0, [.ref hm, .ref hs, .ref hp, .int (nI cn), .int u.1, .int (bI u.2.1), .ref he, .int (nI u.2.2.1), .int u.2.2.2]))]) (va_A [(ht, .inr (0, [.ref hm, .ref hs, .ref hp, .int (nI cn), .int rn, .int (bI tr), .ref he, .int (nI ec), .int me]))] sz)) 0 0 (va_A [(ht, .inr (0, [.ref hm, .ref hs, .ref hp, .int (nI cn), .int rn, .int (bI tr), .ref he, .int (nI ec), .int me]))] sz) := by
  refine Met.ofW (cc := b_TS_powerLost) (maxL := 1) (ret := (some .int)) (by decide) rfl ?_
  intro p e s m args below meth c s₁ B hml hv
  obtain ⟨rfl, hsz, hP, hKN, hD0⟩ := hv
  have hK := hKN.1
  have hx := B.exec
  have hb := B.bytes
  have hr := B.returns
  have hts := fun (w : Cond) (h : w ∈ gt) => atoms_spec (ws := w_TS_powerLost) B.pre w (List.mem_cons_of_mem _ h)
  have hown : s.vm.findClass R_TS = some m.cls := findClass_of_methodNamed B.named
  have hlocks := B.notSynchronized
  subst hsz
  have hD := hD0.self (sz := s.heap.size)
  generalize hAe : va_A [(ht, .inr (0, [.ref hm, .ref hs, .ref hp, .int (nI cn), .int rn, .int (bI tr), .ref he, .int (nI ec), .int me]))] s.heap.size = A at hD ⊢
  have hA : ∀ q : Nat, s.heap.size ≤ q → A q := fun q h => by rw [← hAe]; exact Or.inr h
  have hS : va_S A s.heap s.heap [] := va_S.rf
  have hP : va_P (dC, dI) classes [(ht, .inr (0, [.ref hm, .ref hs, .ref hp, .int (nI cn), .int rn, .int (bI tr), .ref he, .int (nI ec), .int me]))] s.heap := hP
  clear hAe hD0
  have hl := lv_entry ([.ref ht]) (n := 1) (Nat.le_of_ble_eq_true rfl)
  rw [lg_entry_eq]
  generalize (lg_sl ([.ref ht]) ++ List.replicate (1 - (lg_sl ([.ref ht])).length) Slot.unset).toArray = ls at hl ⊢
  have hl : lv_has ls 1 [(0, .ref ht)] := hl
  refine lv_aload_n hx hb d_TS_powerLost_0 rfl (lv_at hl 0 rfl) ?_
  have hPc := hP.sub (ws' := [(ht, .inr (0, [.ref hm, .ref hs, .ref hp, .int (nI cn), .int rn, .int (bI tr), .ref he, .int (nI ec), .int me]))]) [0] rfl
  have hDc := hD.sub (ws' := [(ht, .inr (0, [.ref hm, .ref hs, .ref hp, .int (nI cn), .int rn, .int (bI tr), .ref he, .int (nI ec), .int me]))]) [0] (by decide) rfl
  have hFc := va_free (wc := [(ht, .inr (0, [.ref hm, .ref hs, .ref hp, .int (nI cn), .int rn, .int (bI tr), .ref he, .int (nI ec), .int me]))]) hD hS hA [0] rfl
  refine va_callv (va_runV (As := []) (rest := []) ⟨hx, hb, hml, hown, hts⟩ (c_TS_stop l dC dI cI (ht := ht) (hm := hm) (hs := hs) (hp := hp) (cn := cn) (rn := rn) (tr := tr) (he := he) (ec := ec) (me := me)  (sz := s.heap.size)) ⟨callB_of 0 hts (gd kw_297) rfl rfl rfl (hts _ kw_35) (hts _ kw_294) (by decide +kernel) ⟨Nat.le_of_ble_eq_true rfl, Nat.le_of_ble_eq_true rfl⟩, (hts _ kw_296), (hts _ kw_10)⟩ ⟨fun a U g mk q => by obtain ⟨q0, q1, qP, qK, qD⟩ := q; exact ⟨q0, q1, qP, qK.call, qD⟩, va_recv hK hP (ci := 0) rfl (q0 := 0) rfl, fun U hU hW => ⟨rfl, by rw [hU], by rw [hU]; exact hPc, hKN.warm hW, hDc.weaken (fun _ _ _ _ => trivial)⟩⟩ rfl rfl hl.1 rfl (lv_room (Nat.le_of_ble_eq_true rfl)) d_TS_powerLost_1 ⟨Nat.zero_le _, Nat.zero_le _⟩) hS (fun q _ h => hFc q h) hFc (fun u t H1 locs zt zvm zw zB zz zk hS => ?_)
  obtain ⟨rn_1, tr_1, ec_1, me_1⟩ := u
  have hu_1 := zw
  simp only [Prod.mk.injEq] at hu_1
  obtain ⟨rfl, rfl, rfl, rfl⟩ := hu_1
  obtain ⟨hP1, hD1⟩ := zB
  rw [zt] at hP1
  have hP1 : va_P (dC, dI) classes [(ht, .inr (0, [.ref hm, .ref hs, .ref hp, .int (nI cn), .int (-1), .int (bI false), .ref he, .int (nI 0), .int (nI 0)]))] H1 := hP1
  obtain ⟨hP, hD⟩ := va_join (wc := [(ht, .inr (0, [.ref hm, .ref hs, .ref hp, .int (nI cn), .int rn, .int (bI tr), .ref he, .int (nI ec), .int me]))]) (wr := []) (w1 := [(ht, .inr (0, [.ref hm, .ref hs, .ref hp, .int (nI cn), .int (-1), .int (bI false), .ref he, .int (nI 0), .int (nI 0)]))]) hP hD [0] [] rfl rfl (by decide) (by decide) zk hFc hP1 hD1
  generalize H1 = H at hP hS ⊢
  have hP : va_P (dC, dI) classes [(ht, .inr (0, [.ref hm, .ref hs, .ref hp, .int (nI cn), .int (-1), .int (bI false), .ref he, .int (nI 0), .int (nI 0)]))] H := hP.sub [0] rfl
  have hD : va_D A [(ht, .inr (0, [.ref hm, .ref hs, .ref hp, .int (nI cn), .int (-1), .int (bI false), .ref he, .int (nI 0), .int (nI 0)]))] := hD.sub [0] (by decide) rfl
  clear hPc hDc hFc hP1 hD1 zk zz zvm zt
  refine lv_iconst (v := (-1)) hx hb d_TS_powerLost_4 (by decide) ?_
  exact W.iret (v := (-1)) hx hb hr (fun t ht hW => ⟨⟨(-1), ((-1), false, 0, (nI 0)), rfl, (by first | rfl | (simp only []; done) | (simp only []; rfl) | (simp []; done)), by rw [ht]; exact hP, hD⟩, hS.F ht⟩) hS.2.2 d_TS_powerLost_5
set_option maxHeartbeats 4000000 in
set_option maxRecDepth 100000 in
theorem c_TS_enter (l : Launch) (dC : Nat → ClassId) (dI : Nat → Nat → Nat) (cI : ClassId) (ht : Nat) (x : Int32) (hm : Nat) (hs : Nat) (hp : Nat) (cn : Nat) (rn : Int32) (tr : Bool) (he : Nat) (ec : Nat) (me : Int32) (en : Nat → Int32) (hec : ec ≤ 3) (sz : Nat) : Met l y_TS_enter w_TS_enter ({ frames := 1, cells := 0, slots := 0, locals := 22 }) (va_Pc [.ref ht, .int x] (fun U => U.heap.size = sz ∧ va_P (dC, dI) classes [(ht, .inr (0, [.ref hm, .ref hs, .ref hp, .int (nI cn), .int rn, .int (bI tr), .ref he, .int (nI ec), .int me])), (he, .inl (cI, 3, .inl en))] U.heap ∧ KN dC dI cI U ∧ va_D (fun _ => True) [(ht, .inr (0, [.ref hm, .ref hs, .ref hp, .int (nI cn), .int rn, .int (bI tr), .ref he, .int (nI ec), .int me])), (he, .inl (cI, 3, .inl en))])) (va_Qv (fun u : (Nat → Int32) × Nat × Int32 => entr x en ec me = u) (fun (u : (Nat → Int32) × Nat × Int32) t => va_P (dC, dI) classes [(ht, .inr (0, [.ref hm, .ref hs, .ref hp, .int (nI cn), .int rn, .int (bI tr), .ref he, .int (nI u.2.1), .int u.2.2])), (he, .inl (cI, 3, .inl u.1))] t.heap ∧ va_D (va_A [(ht, .inr (0, [.ref hm, .ref hs, .ref hp, .int (nI cn), .int rn, .int (bI tr), .ref he, .int (nI ec), .int me])), (he, .inl (cI, 3, .inl en))] sz) [(ht, .inr (0, [.ref hm, .ref hs, .ref hp, .int (nI cn), .int rn, .int (bI tr), .ref he, .int (nI u.2.1), .int u.2.2])), (he, .inl (cI, 3, .inl u.1))]) (va_A [(ht, .inr (0, [.ref hm, .ref hs, .ref hp, .int (nI cn), .int rn, .int (bI tr), .ref he, .int (nI ec), .int me])), (he, .inl (cI, 3, .inl en))] sz)) 0 0 (va_A [(ht, .inr (0, [.ref hm, .ref hs, .ref hp, .int (nI cn), .int rn, .int (bI tr), .ref he, .int (nI ec), .int me])), (he, .inl (cI, 3, .inl en))] sz) := by
  refine Met.ofW (cc := b_TS_enter) (maxL := 2) (ret := none) (by decide) rfl ?_
  intro p e s m args below meth c s₁ B hml hv
  obtain ⟨rfl, hsz, hP, hKN, hD0⟩ := hv
  have hK := hKN.1
  have hx := B.exec
  have hb := B.bytes
  have hr := B.returns
  have hts := fun (w : Cond) (h : w ∈ gt) => atoms_spec (ws := w_TS_enter) B.pre w (List.mem_cons_of_mem _ h)
  have hown : s.vm.findClass R_TS = some m.cls := findClass_of_methodNamed B.named
  have hlocks := B.notSynchronized
  subst hsz
  have hD := hD0.self (sz := s.heap.size)
  generalize hAe : va_A [(ht, .inr (0, [.ref hm, .ref hs, .ref hp, .int (nI cn), .int rn, .int (bI tr), .ref he, .int (nI ec), .int me])), (he, .inl (cI, 3, .inl en))] s.heap.size = A at hD ⊢
  have hA : ∀ q : Nat, s.heap.size ≤ q → A q := fun q h => by rw [← hAe]; exact Or.inr h
  have hS : va_S A s.heap s.heap [] := va_S.rf
  have hP : va_P (dC, dI) classes [(ht, .inr (0, [.ref hm, .ref hs, .ref hp, .int (nI cn), .int rn, .int (bI tr), .ref he, .int (nI ec), .int me])), (he, .inl (cI, 3, .inl en))] s.heap := hP
  clear hAe hD0
  have hl := lv_entry ([.ref ht, .int x]) (n := 2) (Nat.le_of_ble_eq_true rfl)
  rw [lg_entry_eq]
  generalize (lg_sl ([.ref ht, .int x]) ++ List.replicate (2 - (lg_sl ([.ref ht, .int x])).length) Slot.unset).toArray = ls at hl ⊢
  have hl : lv_has ls 2 [(0, .ref ht), (1, .int x)] := hl
  refine lv_aload_n hx hb d_TS_enter_0 rfl (lv_at hl 0 rfl) ?_
  refine va_get (D := (dC, dI)) (ci := 0) (v := .int (nI ec)) (C := R_TS) (T := F_TS) (N := 9) hx hb hts in_TS hown hK hP 0 rfl rfl 7 (by decide) (hts _ kw_149) (fun _ h9 => h9) rfl d_TS_enter_1 ?_
  refine lv_iconst (v := (nI 3)) hx hb d_TS_enter_4 (by decide) ?_
  refine nb_ge (tgt := 28) hx hb d_TS_enter_5 (by decide) (by first | omega | exact Nat.lt_of_lt_of_le (stt_lt _ _) (by decide)) (by first | omega | exact Nat.lt_of_lt_of_le (stt_lt _ _) (by decide)) (fun h_1 => ?_) (fun h_1 => ?_)
  · refine lv_aload_n hx hb d_TS_enter_28 rfl (lv_at hl 0 rfl) ?_
    refine lv_aload_n hx hb d_TS_enter_29 rfl (lv_at hl 0 rfl) ?_
    refine va_get (D := (dC, dI)) (ci := 0) (v := .int me) (C := R_TS) (T := F_TS) (N := 9) hx hb hts in_TS hown hK hP 0 rfl rfl 8 (by decide) (hts _ kw_150) (fun _ h9 => h9) rfl d_TS_enter_30 ?_
    refine lv_iload_n hx hb d_TS_enter_33 rfl (lv_at hl 1 rfl) ?_
    refine pr_call (va_runS (As := [.int me, .int x]) (rest := [.ref ht]) ⟨hx, hb, hml, hown, hts⟩ (c_TS_hash l dC dI cI (a := me) (b := x) ) ⟨callB_of 2 hts (gd kw_66) rfl rfl rfl (hts _ kw_35) (hts _ kw_328) (by decide +kernel) ⟨Nat.le_of_ble_eq_true rfl, Nat.le_of_ble_eq_true rfl⟩, (hts _ kw_65)⟩ ⟨fun a U g mk q => by obtain ⟨q0, qP, qK⟩ := q; exact ⟨q0, qP, qK.call⟩, fun U hU hW => ⟨rfl, by rw [hU]; exact hP.sub [] rfl, hKN.warm hW⟩⟩ rfl rfl hl.1 rfl (lv_room (Nat.le_of_ble_eq_true rfl)) d_TS_enter_34 ⟨Nat.zero_le _, Nat.zero_le _⟩) ?_
    refine va_put (D := (dC, dI)) (ci := 0) (v := .int (hh me x)) (ty := .int) (C := R_TS) (T := F_TS) (N := 9) hx hb hts in_TS t_TS t_TS_ok n_TS hown hK hP hD hS 0 rfl rfl 8 (by decide) (hts _ kw_150) (fun _ h9 => h9) rfl (by decide +kernel) rfl rfl (Nat.le_of_ble_eq_true rfl) d_TS_enter_37 (fun H locs hP hD hS => ?_)
    have hP : va_P (dC, dI) classes [(ht, .inr (0, [.ref hm, .ref hs, .ref hp, .int (nI cn), .int rn, .int (bI tr), .ref he, .int (nI ec), .int (hh me x)])), (he, .inl (cI, 3, .inl en))] H := hP
    have hD : va_D A [(ht, .inr (0, [.ref hm, .ref hs, .ref hp, .int (nI cn), .int rn, .int (bI tr), .ref he, .int (nI ec), .int (hh me x)])), (he, .inl (cI, 3, .inl en))] := hD
    exact W.vret hx hb hr (fun t ht hW => ⟨⟨(en, ec, hh me x), rfl, (by first | rfl | (simp only [entr, if_pos h_1]; done) | (simp only [entr, if_pos h_1]; rfl) | (simp [entr, h_1]; done)), by rw [ht]; exact hP, hD⟩, hS.F ht⟩) hS.2.2 d_TS_enter_40
  · refine lv_aload_n hx hb d_TS_enter_8 rfl (lv_at hl 0 rfl) ?_
    refine va_get (D := (dC, dI)) (ci := 0) (v := .ref he) (C := R_TS) (T := F_TS) (N := 9) hx hb hts in_TS hown hK hP 0 rfl rfl 6 (by decide) (hts _ kw_148) (fun _ h9 => h9) rfl d_TS_enter_9 ?_
    refine lv_aload_n hx hb d_TS_enter_12 rfl (lv_at hl 0 rfl) ?_
    refine va_get (D := (dC, dI)) (ci := 0) (v := .int (nI ec)) (C := R_TS) (T := F_TS) (N := 9) hx hb hts in_TS hown hK hP 0 rfl rfl 7 (by decide) (hts _ kw_149) (fun _ h9 => h9) rfl d_TS_enter_13 ?_
    refine lv_iload_n hx hb d_TS_enter_16 rfl (lv_at hl 1 rfl) ?_
    refine ar_st (k := ec) hx hb hK hP hD hS 1 0 rfl rfl (by omega) (by first | decide | omega) d_TS_enter_17 (fun H locs hP hD hS => ?_)
    have hP : va_P (dC, dI) classes [(ht, .inr (0, [.ref hm, .ref hs, .ref hp, .int (nI cn), .int rn, .int (bI tr), .ref he, .int (nI ec), .int me])), (he, .inl (cI, 3, .inl (upd en ec x)))] H := hP
    have hD : va_D A [(ht, .inr (0, [.ref hm, .ref hs, .ref hp, .int (nI cn), .int rn, .int (bI tr), .ref he, .int (nI ec), .int me])), (he, .inl (cI, 3, .inl (upd en ec x)))] := hD
    refine lv_aload_n hx hb d_TS_enter_18 rfl (lv_at hl 0 rfl) ?_
    refine lv_dup hx hb d_TS_enter_19 rfl ?_
    refine va_get (D := (dC, dI)) (ci := 0) (v := .int (nI ec)) (C := R_TS) (T := F_TS) (N := 9) hx hb hts in_TS hown hK hP 0 rfl rfl 7 (by decide) (hts _ kw_149) (fun _ h9 => h9) rfl d_TS_enter_20 ?_
    refine lv_iconst (v := (nI 1)) hx hb d_TS_enter_23 (by decide) ?_
    refine lv_iadd hx hb d_TS_enter_24 ?_
    refine tp (nI_add _ _) ?_
    refine va_put (D := (dC, dI)) (ci := 0) (v := .int (nI (ec + 1))) (ty := .int) (C := R_TS) (T := F_TS) (N := 9) hx hb hts in_TS t_TS t_TS_ok n_TS hown hK hP hD hS 0 rfl rfl 7 (by decide) (hts _ kw_149) (fun _ h9 => h9) rfl (by decide +kernel) rfl rfl (Nat.le_of_ble_eq_true rfl) d_TS_enter_25 (fun H locs hP hD hS => ?_)
    have hP : va_P (dC, dI) classes [(ht, .inr (0, [.ref hm, .ref hs, .ref hp, .int (nI cn), .int rn, .int (bI tr), .ref he, .int (nI (ec + 1)), .int me])), (he, .inl (cI, 3, .inl (upd en ec x)))] H := hP
    have hD : va_D A [(ht, .inr (0, [.ref hm, .ref hs, .ref hp, .int (nI cn), .int rn, .int (bI tr), .ref he, .int (nI (ec + 1)), .int me])), (he, .inl (cI, 3, .inl (upd en ec x)))] := hD
    refine lv_aload_n hx hb d_TS_enter_28 rfl (lv_at hl 0 rfl) ?_
    refine lv_aload_n hx hb d_TS_enter_29 rfl (lv_at hl 0 rfl) ?_
    refine va_get (D := (dC, dI)) (ci := 0) (v := .int me) (C := R_TS) (T := F_TS) (N := 9) hx hb hts in_TS hown hK hP 0 rfl rfl 8 (by decide) (hts _ kw_150) (fun _ h9 => h9) rfl d_TS_enter_30 ?_
    refine lv_iload_n hx hb d_TS_enter_33 rfl (lv_at hl 1 rfl) ?_
    refine pr_call (va_runS (As := [.int me, .int x]) (rest := [.ref ht]) ⟨hx, hb, hml, hown, hts⟩ (c_TS_hash l dC dI cI (a := me) (b := x) ) ⟨callB_of 2 hts (gd kw_66) rfl rfl rfl (hts _ kw_35) (hts _ kw_328) (by decide +kernel) ⟨Nat.le_of_ble_eq_true rfl, Nat.le_of_ble_eq_true rfl⟩, (hts _ kw_65)⟩ ⟨fun a U g mk q => by obtain ⟨q0, qP, qK⟩ := q; exact ⟨q0, qP, qK.call⟩, fun U hU hW => ⟨rfl, by rw [hU]; exact hP.sub [] rfl, hKN.warm hW⟩⟩ rfl rfl hl.1 rfl (lv_room (Nat.le_of_ble_eq_true rfl)) d_TS_enter_34 ⟨Nat.zero_le _, Nat.zero_le _⟩) ?_
    refine va_put (D := (dC, dI)) (ci := 0) (v := .int (hh me x)) (ty := .int) (C := R_TS) (T := F_TS) (N := 9) hx hb hts in_TS t_TS t_TS_ok n_TS hown hK hP hD hS 0 rfl rfl 8 (by decide) (hts _ kw_150) (fun _ h9 => h9) rfl (by decide +kernel) rfl rfl (Nat.le_of_ble_eq_true rfl) d_TS_enter_37 (fun H locs hP hD hS => ?_)
    have hP : va_P (dC, dI) classes [(ht, .inr (0, [.ref hm, .ref hs, .ref hp, .int (nI cn), .int rn, .int (bI tr), .ref he, .int (nI (ec + 1)), .int (hh me x)])), (he, .inl (cI, 3, .inl (upd en ec x)))] H := hP
    have hD : va_D A [(ht, .inr (0, [.ref hm, .ref hs, .ref hp, .int (nI cn), .int rn, .int (bI tr), .ref he, .int (nI (ec + 1)), .int (hh me x)])), (he, .inl (cI, 3, .inl (upd en ec x)))] := hD
    exact W.vret hx hb hr (fun t ht hW => ⟨⟨(upd en ec x, ec + 1, hh me x), rfl, (by first | rfl | (simp only [entr, if_neg h_1]; done) | (simp only [entr, if_neg h_1]; rfl) | (simp [entr, h_1]; done)), by rw [ht]; exact hP, hD⟩, hS.F ht⟩) hS.2.2 d_TS_enter_40
set_option maxHeartbeats 4000000 in
set_option maxRecDepth 100000 in
theorem c_TS_isConfirmed (l : Launch) (dC : Nat → ClassId) (dI : Nat → Nat → Nat) (cI : ClassId) (ht : Nat) (k : Nat) (hm : Nat) (hs : Nat) (hp : Nat) (cn : Nat) (rn : Int32) (tr : Bool) (he : Nat) (ec : Nat) (me : Int32) (hw : Nat) (bl : Nat) (dn : Int32) (lf : Int32) (M : Nat → Int32) (hk : k < 2) : Met l y_TS_isConfirmed w_TS_isConfirmed ({ frames := 5, cells := 0, slots := 0, locals := 108 }) (va_Pc [.ref ht, .int (nI k)] (fun U => va_P (dC, dI) classes [(ht, .inr (0, [.ref hm, .ref hs, .ref hp, .int (nI cn), .int rn, .int (bI tr), .ref he, .int (nI ec), .int me])), (hs, .inr (2, [.ref hw, .int (nI bl), .int dn, .int lf])), (hw, .inl (cI, 40, .inl M))] U.heap ∧ KN dC dI cI U)) (qr (bI (cfm M k))) 0 0 (fun _ => False) := by
  refine Met.ofW (cc := b_TS_isConfirmed) (maxL := 2) (ret := (some .boolean)) (by decide) rfl ?_
  intro p e s m args below meth c s₁ B hml hv
  obtain ⟨rfl, hP, hKN⟩ := hv
  have hK := hKN.1
  have hx := B.exec
  have hb := B.bytes
  have hr := B.returns
  have hts := fun (w : Cond) (h : w ∈ gt) => atoms_spec (ws := w_TS_isConfirmed) B.pre w (List.mem_cons_of_mem _ h)
  have hown : s.vm.findClass R_TS = some m.cls := findClass_of_methodNamed B.named
  have hlocks := B.notSynchronized
  have hl := lv_entry ([.ref ht, .int (nI k)]) (n := 2) (Nat.le_of_ble_eq_true rfl)
  rw [lg_entry_eq]
  generalize (lg_sl ([.ref ht, .int (nI k)]) ++ List.replicate (2 - (lg_sl ([.ref ht, .int (nI k)])).length) Slot.unset).toArray = ls at hl ⊢
  have hl : lv_has ls 2 [(0, .ref ht), (1, .int (nI k))] := hl
  have gst := stt_lt (ety M) k
  refine lv_aload_n hx hb d_TS_isConfirmed_0 rfl (lv_at hl 0 rfl) ?_
  refine va_get (D := (dC, dI)) (ci := 0) (v := .ref hs) (C := R_TS) (T := F_TS) (N := 9) hx hb hts in_TS hown hK hP 0 rfl rfl 1 (by decide) (hts _ kw_143) (fun _ h9 => h9) rfl d_TS_isConfirmed_1 ?_
  refine pr_call (va_runV (As := []) (rest := []) ⟨hx, hb, hml, hown, hts⟩ (c_St_entry l dC dI cI (hs := hs) (hw := hw) (bl := bl) (dn := dn) (lf := lf) (M := M) ) ⟨callB_of 0 hts (gd kw_243) rfl rfl rfl (hts _ kw_39) (hts _ kw_240) (by decide +kernel) ⟨Nat.le_of_ble_eq_true rfl, Nat.le_of_ble_eq_true rfl⟩, (hts _ kw_241), (hts _ kw_242)⟩ ⟨fun a U g mk q => by obtain ⟨q0, qP, qK⟩ := q; exact ⟨q0, qP, qK.call⟩, va_recv hK hP (ci := 2) rfl (q0 := 1) rfl, fun U hU hW => ⟨rfl, by rw [hU]; exact hP.sub [1, 2] rfl, hKN.warm hW⟩⟩ rfl rfl hl.1 rfl (lv_room (Nat.le_of_ble_eq_true rfl)) d_TS_isConfirmed_4 ⟨Nat.zero_le _, Nat.zero_le _⟩) ?_
  refine lv_iload_n hx hb d_TS_isConfirmed_7 rfl (lv_at hl 1 rfl) ?_
  refine pr_call (va_runS (As := [.int (ety M), .int (nI k)]) (rest := []) ⟨hx, hb, hml, hown, hts⟩ (c_Tb_stateIn l dC dI cI (en := ety M) (k := k) ) ⟨callB_of 2 hts (gd kw_312) rfl rfl rfl (hts _ kw_42) (hts _ kw_337) (by decide +kernel) ⟨Nat.le_of_ble_eq_true rfl, Nat.le_of_ble_eq_true rfl⟩, (hts _ kw_311)⟩ ⟨fun a U g mk q => by obtain ⟨q0, qP, qK⟩ := q; exact ⟨q0, qP, qK.call⟩, fun U hU hW => ⟨rfl, by rw [hU]; exact hP.sub [] rfl, hKN.warm hW⟩⟩ rfl rfl hl.1 rfl (lv_room (Nat.le_of_ble_eq_true rfl)) d_TS_isConfirmed_8 ⟨Nat.zero_le _, Nat.zero_le _⟩) ?_
  refine lv_iconst (v := (nI 3)) hx hb d_TS_isConfirmed_11 (by decide) ?_
  refine nb_ne (tgt := 19) hx hb d_TS_isConfirmed_12 (by decide) (by first | omega | exact Nat.lt_of_lt_of_le (stt_lt _ _) (by decide)) (by first | omega | exact Nat.lt_of_lt_of_le (stt_lt _ _) (by decide)) (fun h_1 => ?_) (fun h_1 => ?_)
  · refine lv_iconst (v := (nI 0)) hx hb d_TS_isConfirmed_19 (by decide) ?_
    exact W.zret (v := (bI false)) hx hb hr (bI_narrow _) (fun t ht hW => ⟨_, rfl, (by simp [cfm, h_1]), ht⟩) (fun q h => by cases h) d_TS_isConfirmed_20
  · refine lv_iconst (v := (nI 1)) hx hb d_TS_isConfirmed_15 (by decide) ?_
    refine lv_goto (tgt := 20) hx hb d_TS_isConfirmed_16 (by decide) ?_
    exact W.zret (v := (bI true)) hx hb hr (bI_narrow _) (fun t ht hW => ⟨_, rfl, (by simp [cfm, h_1]), ht⟩) (fun q h => by cases h) d_TS_isConfirmed_20
set_option maxHeartbeats 4000000 in
set_option maxRecDepth 100000 in
theorem c_TS_attempt (l : Launch) (dC : Nat → ClassId) (dI : Nat → Nat → Nat) (cI : ClassId) (ht : Nat) (k : Nat) (hm : Nat) (hs : Nat) (hp : Nat) (cn : Nat) (rn : Int32) (tr : Bool) (he : Nat) (ec : Nat) (me : Int32) (sc : Int32) (hn : Nat) (nk : Nat) (nd : Nat → Int32) (hw : Nat) (bl : Nat) (dn : Int32) (lf : Int32) (M : Nat → Int32) (en : Nat → Int32) (hk : k < 2) (hbl : bl ≤ 32) (sz : Nat) : Met l y_TS_attempt w_TS_attempt ({ frames := 4, cells := 0, slots := 0, locals := 95 }) (va_Pc [.ref ht, .int (nI k)] (fun U => U.heap.size = sz ∧ va_P (dC, dI) classes [(ht, .inr (0, [.ref hm, .ref hs, .ref hp, .int (nI cn), .int rn, .int (bI tr), .ref he, .int (nI ec), .int me])), (hm, .inr (1, [.int sc, .ref hn, .int (nI nk)])), (hn, .inl (cI, 16, .inl nd)), (hs, .inr (2, [.ref hw, .int (nI bl), .int dn, .int lf])), (hw, .inl (cI, 40, .inl M)), (he, .inl (cI, 3, .inl en))] U.heap ∧ KN dC dI cI U ∧ va_D (fun _ => True) [(ht, .inr (0, [.ref hm, .ref hs, .ref hp, .int (nI cn), .int rn, .int (bI tr), .ref he, .int (nI ec), .int me])), (hm, .inr (1, [.int sc, .ref hn, .int (nI nk)])), (hn, .inl (cI, 16, .inl nd)), (hs, .inr (2, [.ref hw, .int (nI bl), .int dn, .int lf])), (hw, .inl (cI, 40, .inl M)), (he, .inl (cI, 3, .inl en))])) (va_Qi (fun (r : Int32) (u : (Nat → Int32) × Nat × Int32) => ∃ res : Bool, r = bI res ∧ (att (fun i => M (k * 17 + i)) bl (nd 1) en = (res, u))) (fun (u : (Nat → Int32) × Nat × Int32) t => va_P (dC, dI) classes [(ht, .inr (0, [.ref hm, .ref hs, .ref hp, .int (nI cn), .int rn, .int (bI tr), .ref he, .int (nI u.2.1), .int u.2.2])), (hm, .inr (1, [.int sc, .ref hn, .int (nI nk)])), (hn, .inl (cI, 16, .inl nd)), (hs, .inr (2, [.ref hw, .int (nI bl), .int dn, .int lf])), (hw, .inl (cI, 40, .inl M)), (he, .inl (cI, 3, .inl u.1))] t.heap ∧ va_D (va_A [(ht, .inr (0, [.ref hm, .ref hs, .ref hp, .int (nI cn), .int rn, .int (bI tr), .ref he, .int (nI ec), .int me])), (hm, .inr (1, [.int sc, .ref hn, .int (nI nk)])), (hn, .inl (cI, 16, .inl nd)), (hs, .inr (2, [.ref hw, .int (nI bl), .int dn, .int lf])), (hw, .inl (cI, 40, .inl M)), (he, .inl (cI, 3, .inl en))] sz) [(ht, .inr (0, [.ref hm, .ref hs, .ref hp, .int (nI cn), .int rn, .int (bI tr), .ref he, .int (nI u.2.1), .int u.2.2])), (hm, .inr (1, [.int sc, .ref hn, .int (nI nk)])), (hn, .inl (cI, 16, .inl nd)), (hs, .inr (2, [.ref hw, .int (nI bl), .int dn, .int lf])), (hw, .inl (cI, 40, .inl M)), (he, .inl (cI, 3, .inl u.1))]) (va_A [(ht, .inr (0, [.ref hm, .ref hs, .ref hp, .int (nI cn), .int rn, .int (bI tr), .ref he, .int (nI ec), .int me])), (hm, .inr (1, [.int sc, .ref hn, .int (nI nk)])), (hn, .inl (cI, 16, .inl nd)), (hs, .inr (2, [.ref hw, .int (nI bl), .int dn, .int lf])), (hw, .inl (cI, 40, .inl M)), (he, .inl (cI, 3, .inl en))] sz)) 0 0 (va_A [(ht, .inr (0, [.ref hm, .ref hs, .ref hp, .int (nI cn), .int rn, .int (bI tr), .ref he, .int (nI ec), .int me])), (hm, .inr (1, [.int sc, .ref hn, .int (nI nk)])), (hn, .inl (cI, 16, .inl nd)), (hs, .inr (2, [.ref hw, .int (nI bl), .int dn, .int lf])), (hw, .inl (cI, 40, .inl M)), (he, .inl (cI, 3, .inl en))] sz) := by
  refine Met.ofW (cc := b_TS_attempt) (maxL := 5) (ret := (some .boolean)) (by decide) rfl ?_
  intro p e s m args below meth c s₁ B hml hv
  obtain ⟨rfl, hsz, hP, hKN, hD0⟩ := hv
  have hK := hKN.1
  have hx := B.exec
  have hb := B.bytes
  have hr := B.returns
  have hts := fun (w : Cond) (h : w ∈ gt) => atoms_spec (ws := w_TS_attempt) B.pre w (List.mem_cons_of_mem _ h)
  have hown : s.vm.findClass R_TS = some m.cls := findClass_of_methodNamed B.named
  have hlocks := B.notSynchronized
  subst hsz
  have hD := hD0.self (sz := s.heap.size)
  generalize hAe : va_A [(ht, .inr (0, [.ref hm, .ref hs, .ref hp, .int (nI cn), .int rn, .int (bI tr), .ref he, .int (nI ec), .int me])), (hm, .inr (1, [.int sc, .ref hn, .int (nI nk)])), (hn, .inl (cI, 16, .inl nd)), (hs, .inr (2, [.ref hw, .int (nI bl), .int dn, .int lf])), (hw, .inl (cI, 40, .inl M)), (he, .inl (cI, 3, .inl en))] s.heap.size = A at hD ⊢
  have hA : ∀ q : Nat, s.heap.size ≤ q → A q := fun q h => by rw [← hAe]; exact Or.inr h
  have hS : va_S A s.heap s.heap [] := va_S.rf
  have hP : va_P (dC, dI) classes [(ht, .inr (0, [.ref hm, .ref hs, .ref hp, .int (nI cn), .int rn, .int (bI tr), .ref he, .int (nI ec), .int me])), (hm, .inr (1, [.int sc, .ref hn, .int (nI nk)])), (hn, .inl (cI, 16, .inl nd)), (hs, .inr (2, [.ref hw, .int (nI bl), .int dn, .int lf])), (hw, .inl (cI, 40, .inl M)), (he, .inl (cI, 3, .inl en))] s.heap := hP
  clear hAe hD0
  have hl := lv_entry ([.ref ht, .int (nI k)]) (n := 5) (Nat.le_of_ble_eq_true rfl)
  rw [lg_entry_eq]
  generalize (lg_sl ([.ref ht, .int (nI k)]) ++ List.replicate (5 - (lg_sl ([.ref ht, .int (nI k)])).length) Slot.unset).toArray = ls at hl ⊢
  have hl : lv_has ls 5 [(0, .ref ht), (1, .int (nI k))] := hl
  refine lv_aload_n hx hb d_TS_attempt_0 rfl (lv_at hl 0 rfl) ?_
  have hPc := hP.sub (ws' := [(ht, .inr (0, [.ref hm, .ref hs, .ref hp, .int (nI cn), .int rn, .int (bI tr), .ref he, .int (nI ec), .int me]))]) [0] rfl
  have hDc := hD.sub (ws' := [(ht, .inr (0, [.ref hm, .ref hs, .ref hp, .int (nI cn), .int rn, .int (bI tr), .ref he, .int (nI ec), .int me]))]) [0] (by decide) rfl
  have hFc := va_free (wc := [(ht, .inr (0, [.ref hm, .ref hs, .ref hp, .int (nI cn), .int rn, .int (bI tr), .ref he, .int (nI ec), .int me]))]) hD hS hA [0] rfl
  refine va_callv (va_runV (As := []) (rest := []) ⟨hx, hb, hml, hown, hts⟩ (c_TS_forgetStages l dC dI cI (ht := ht) (hm := hm) (hs := hs) (hp := hp) (cn := cn) (rn := rn) (tr := tr) (he := he) (ec := ec) (me := me)  (sz := s.heap.size)) ⟨callB_of 0 hts (gd kw_301) rfl rfl rfl (hts _ kw_35) (hts _ kw_298) (by decide +kernel) ⟨Nat.le_of_ble_eq_true rfl, Nat.le_of_ble_eq_true rfl⟩, (hts _ kw_300), (hts _ kw_11)⟩ ⟨fun a U g mk q => by obtain ⟨q0, q1, qP, qK, qD⟩ := q; exact ⟨q0, q1, qP, qK.call, qD⟩, va_recv hK hP (ci := 0) rfl (q0 := 0) rfl, fun U hU hW => ⟨rfl, by rw [hU], by rw [hU]; exact hPc, hKN.warm hW, hDc.weaken (fun _ _ _ _ => trivial)⟩⟩ rfl rfl hl.1 rfl (lv_room (Nat.le_of_ble_eq_true rfl)) d_TS_attempt_1 ⟨Nat.zero_le _, Nat.zero_le _⟩) hS (fun q _ h => hFc q h) hFc (fun u t H1 locs zt zvm zw zB zz zk hS => ?_)
  obtain ⟨ec_1, me_1⟩ := u
  have hu_1 := zw
  simp only [Prod.mk.injEq] at hu_1
  obtain ⟨rfl, rfl⟩ := hu_1
  obtain ⟨hP1, hD1⟩ := zB
  rw [zt] at hP1
  have hP1 : va_P (dC, dI) classes [(ht, .inr (0, [.ref hm, .ref hs, .ref hp, .int (nI cn), .int rn, .int (bI tr), .ref he, .int (nI 0), .int (nI 0)]))] H1 := hP1
  obtain ⟨hP, hD⟩ := va_join (wc := [(ht, .inr (0, [.ref hm, .ref hs, .ref hp, .int (nI cn), .int rn, .int (bI tr), .ref he, .int (nI ec), .int me]))]) (wr := [(hm, .inr (1, [.int sc, .ref hn, .int (nI nk)])), (hn, .inl (cI, 16, .inl nd)), (hs, .inr (2, [.ref hw, .int (nI bl), .int dn, .int lf])), (hw, .inl (cI, 40, .inl M)), (he, .inl (cI, 3, .inl en))]) (w1 := [(ht, .inr (0, [.ref hm, .ref hs, .ref hp, .int (nI cn), .int rn, .int (bI tr), .ref he, .int (nI 0), .int (nI 0)]))]) hP hD [0] [1, 2, 3, 4, 5] rfl rfl (by decide) (by decide) zk hFc hP1 hD1
  generalize H1 = H at hP hS ⊢
  have hP : va_P (dC, dI) classes [(ht, .inr (0, [.ref hm, .ref hs, .ref hp, .int (nI cn), .int rn, .int (bI tr), .ref he, .int (nI 0), .int (nI 0)])), (hm, .inr (1, [.int sc, .ref hn, .int (nI nk)])), (hn, .inl (cI, 16, .inl nd)), (hs, .inr (2, [.ref hw, .int (nI bl), .int dn, .int lf])), (hw, .inl (cI, 40, .inl M)), (he, .inl (cI, 3, .inl en))] H := hP.sub [5, 0, 1, 2, 3, 4] rfl
  have hD : va_D A [(ht, .inr (0, [.ref hm, .ref hs, .ref hp, .int (nI cn), .int rn, .int (bI tr), .ref he, .int (nI 0), .int (nI 0)])), (hm, .inr (1, [.int sc, .ref hn, .int (nI nk)])), (hn, .inl (cI, 16, .inl nd)), (hs, .inr (2, [.ref hw, .int (nI bl), .int dn, .int lf])), (hw, .inl (cI, 40, .inl M)), (he, .inl (cI, 3, .inl en))] := hD.sub [5, 0, 1, 2, 3, 4] (by decide) rfl
  clear hPc hDc hFc hP1 hD1 zk zz zvm zt
  refine lv_aload_n hx hb d_TS_attempt_4 rfl (lv_at hl 0 rfl) ?_
  refine va_get (D := (dC, dI)) (ci := 0) (v := .ref hs) (C := R_TS) (T := F_TS) (N := 9) hx hb hts in_TS hown hK hP 0 rfl rfl 1 (by decide) (hts _ kw_143) (fun _ h9 => h9) rfl d_TS_attempt_5 ?_
  refine lv_iload_n hx hb d_TS_attempt_8 rfl (lv_at hl 1 rfl) ?_
  refine pr_call (va_runV (As := [.int (nI k)]) (rest := []) ⟨hx, hb, hml, hown, hts⟩ (c_St_versionIn l dC dI cI (hs := hs) (k := k) (hw := hw) (bl := bl) (dn := dn) (lf := lf) (M := M) (hk := (by omega))) ⟨callB_of 1 hts (gd kw_320) rfl rfl rfl (hts _ kw_39) (hts _ kw_317) (by decide +kernel) ⟨Nat.le_of_ble_eq_true rfl, Nat.le_of_ble_eq_true rfl⟩, (hts _ kw_318), (hts _ kw_319)⟩ ⟨fun a U g mk q => by obtain ⟨q0, qP, qK⟩ := q; exact ⟨q0, qP, qK.call⟩, va_recv hK hP (ci := 2) rfl (q0 := 3) rfl, fun U hU hW => ⟨rfl, by rw [hU]; exact hP.sub [3, 4] rfl, hKN.warm hW⟩⟩ rfl rfl hl.1 rfl (lv_room (Nat.le_of_ble_eq_true rfl)) d_TS_attempt_9 ⟨Nat.zero_le _, Nat.zero_le _⟩) ?_
  refine lv_istore_n (lv' := [(2, .int (M (k * 17))), (0, .ref ht), (1, .int (nI k))]) hx hb d_TS_attempt_12 rfl hl (by decide) rfl (fun ls hl => ?_)
  refine lv_iload_n hx hb d_TS_attempt_13 rfl (lv_at hl 2 rfl) ?_
  refine pr_call (va_runS (As := [.int (nI k)]) (rest := []) ⟨hx, hb, hml, hown, hts⟩ (c_St_slotPlace l dC dI cI (k := k) ) ⟨callB_of 1 hts (gd kw_289) rfl rfl rfl (hts _ kw_39) (hts _ kw_321) (by decide +kernel) ⟨Nat.le_of_ble_eq_true rfl, Nat.le_of_ble_eq_true rfl⟩, (hts _ kw_288)⟩ ⟨fun a U g mk q => by obtain ⟨q0, qP, qK⟩ := q; exact ⟨q0, qP, qK.call⟩, fun U hU hW => ⟨rfl, by rw [hU]; exact hP.sub [] rfl, hKN.warm hW⟩⟩ rfl rfl hl.1 rfl (lv_room (Nat.le_of_ble_eq_true rfl)) d_TS_attempt_14 ⟨Nat.zero_le _, Nat.zero_le _⟩) ?_
  refine lv_istore_n (lv' := [(3, .int (nI (k * 17))), (2, .int (M (k * 17))), (0, .ref ht), (1, .int (nI k))]) hx hb d_TS_attempt_17 rfl hl (by decide) rfl (fun ls hl => ?_)
  refine lv_iload_n hx hb d_TS_attempt_18 rfl (lv_at hl 1 rfl) ?_
  refine pr_call (va_runS (As := [.int (M (k * 17))]) (rest := []) ⟨hx, hb, hml, hown, hts⟩ (c_PW_isVersion l dC dI cI (v := M (k * 17)) ) ⟨callB_of 1 hts (gd kw_184) rfl rfl rfl (hts _ kw_38) (hts _ kw_182) (by decide +kernel) ⟨Nat.le_of_ble_eq_true rfl, Nat.le_of_ble_eq_true rfl⟩, (hts _ kw_183)⟩ ⟨fun a U g mk q => by obtain ⟨q0, qP, qK⟩ := q; exact ⟨q0, qP, qK.call⟩, fun U hU hW => ⟨rfl, by rw [hU]; exact hP.sub [] rfl, hKN.warm hW⟩⟩ rfl rfl hl.1 rfl (lv_room (Nat.le_of_ble_eq_true rfl)) d_TS_attempt_19 ⟨Nat.zero_le _, Nat.zero_le _⟩) ?_
  refine bz_eq (tgt := 57) hx hb d_TS_attempt_22 (by decide) (fun h_2 => ?_) (fun h_2 => ?_)
  · refine lv_iconst (v := (nI 0)) hx hb d_TS_attempt_57 (by decide) ?_
    exact W.zret (v := (bI false)) hx hb hr (bI_narrow _) (fun t ht hW => ⟨⟨_, (en, 0, (nI 0)), rfl, ⟨false, rfl, (by simp [att, h_2])⟩, by rw [ht]; exact hP, hD⟩, hS.F ht⟩) hS.2.2 d_TS_attempt_58
  · refine lv_iload_n hx hb d_TS_attempt_25 rfl (lv_at hl 1 rfl) ?_
    refine lv_aload_n hx hb d_TS_attempt_26 rfl (lv_at hl 2 rfl) ?_
    refine va_get (D := (dC, dI)) (ci := 0) (v := .ref hs) (C := R_TS) (T := F_TS) (N := 9) hx hb hts in_TS hown hK hP 0 rfl rfl 1 (by decide) (hts _ kw_143) (fun _ h9 => h9) rfl d_TS_attempt_27 ?_
    refine va_getN (D := (dC, dI)) (ci := 2) (v := .int (nI bl)) (C := R_St) (T := F_St) (N := 4) hx hb hts in_St hown hK hP 3 rfl rfl 1 (by decide) (va_Nw.use rfl (nst_5 hKN.2)) (fun _ h9 => h9) rfl d_TS_attempt_30 ?_
    refine lv_icmp_lt (tgt := 57) hx hb d_TS_attempt_33 (by decide) (fun h_3 => ?_) (fun h_3 => ?_)
    · refine lv_iconst (v := (nI 0)) hx hb d_TS_attempt_57 (by decide) ?_
      exact W.zret (v := (bI false)) hx hb hr (bI_narrow _) (fun t ht hW => ⟨⟨_, (en, 0, (nI 0)), rfl, ⟨false, rfl, (by simp [att, h_2, h_3])⟩, by rw [ht]; exact hP, hD⟩, hS.F ht⟩) hS.2.2 d_TS_attempt_58
    · refine lv_aload_n hx hb d_TS_attempt_36 rfl (lv_at hl 2 rfl) ?_
      refine va_get (D := (dC, dI)) (ci := 0) (v := .ref hs) (C := R_TS) (T := F_TS) (N := 9) hx hb hts in_TS hown hK hP 0 rfl rfl 1 (by decide) (hts _ kw_143) (fun _ h9 => h9) rfl d_TS_attempt_37 ?_
      refine va_getN (D := (dC, dI)) (ci := 2) (v := .ref hw) (C := R_St) (T := F_St) (N := 4) hx hb hts in_St hown hK hP 3 rfl rfl 0 (by decide) (va_Nw.use rfl (nst_4 hKN.2)) (fun _ h9 => h9) rfl d_TS_attempt_40 ?_
      refine lv_iload_n hx hb d_TS_attempt_43 rfl (lv_at hl 0 rfl) ?_
      refine lv_aload_n hx hb d_TS_attempt_44 rfl (lv_at hl 2 rfl) ?_
      refine va_get (D := (dC, dI)) (ci := 0) (v := .ref hm) (C := R_TS) (T := F_TS) (N := 9) hx hb hts in_TS hown hK hP 0 rfl rfl 0 (by decide) (hts _ kw_142) (fun _ h9 => h9) rfl d_TS_attempt_45 ?_
      refine pr_call (va_runV (As := []) (rest := [.int (nI (k * 17)), .ref hw]) ⟨hx, hb, hml, hown, hts⟩ (c_Mk_root l dC dI cI (hm := hm) (sc := sc) (hn := hn) (nk := nk) (nd := nd) ) ⟨callB_of 0 hts (gd kw_177) rfl rfl rfl (hts _ kw_36) (hts _ kw_174) (by decide +kernel) ⟨Nat.le_of_ble_eq_true rfl, Nat.le_of_ble_eq_true rfl⟩, (hts _ kw_175), (hts _ kw_176)⟩ ⟨fun a U g mk q => by obtain ⟨q0, qP, qK⟩ := q; exact ⟨q0, qP, qK.call⟩, va_recv hK hP (ci := 1) rfl (q0 := 1) rfl, fun U hU hW => ⟨rfl, by rw [hU]; exact hP.sub [1, 2] rfl, hKN.warm hW⟩⟩ rfl rfl hl.1 rfl (lv_room (Nat.le_of_ble_eq_true rfl)) d_TS_attempt_48 ⟨Nat.zero_le _, Nat.zero_le _⟩) ?_
      refine pr_call (va_runS (As := [.ref hw, .int (nI (k * 17)), .int (nd 1)]) (rest := []) ⟨hx, hb, hml, hown, hts⟩ (c_Sg_isSigned l dC dI cI (ha := hw) (b := k * 17) (rt := nd 1) (N := 40) (f := M) (hN := (by omega)) (hbN := (by omega))) ⟨callB_of 3 hts (gd kw_218) rfl rfl rfl (hts _ kw_37) (hts _ kw_322) (by decide +kernel) ⟨Nat.le_of_ble_eq_true rfl, Nat.le_of_ble_eq_true rfl⟩, (hts _ kw_217)⟩ ⟨fun a U g mk q => by obtain ⟨q0, qP, qK⟩ := q; exact ⟨q0, qP, qK.call⟩, fun U hU hW => ⟨rfl, by rw [hU]; exact hP.sub [4] rfl, hKN.warm hW⟩⟩ rfl rfl hl.1 rfl (lv_room (Nat.le_of_ble_eq_true rfl)) d_TS_attempt_51 ⟨Nat.zero_le _, Nat.zero_le _⟩) ?_
      refine bz_ne (tgt := 59) hx hb d_TS_attempt_54 (by decide) (fun h_4 => ?_) (fun h_4 => ?_)
      · refine lv_iconst (v := (nI 0)) hx hb d_TS_attempt_59 (by decide) ?_
        refine lv_istore (lv' := [(4, .int (nI 0)), (3, .int (nI (k * 17))), (2, .int (M (k * 17))), (0, .ref ht), (1, .int (nI k))]) hx hb d_TS_attempt_60 hl (by decide) rfl (fun ls hl => ?_)
        refine lv_iload hx hb d_TS_attempt_62 (lv_at hl 0 rfl) ?_
        refine lv_iconst (v := (nI 3)) hx hb d_TS_attempt_64 (by decide) ?_
        refine nb_ge (tgt := 110) hx hb d_TS_attempt_65 (by decide) (by decide) (by decide) (fun h_5 => ?_) (fun h_5 => ?_)
        · exact absurd h_5 (by decide)
        · refine lv_aload_n hx hb d_TS_attempt_68 rfl (lv_at hl 3 rfl) ?_
          refine va_get (D := (dC, dI)) (ci := 0) (v := .ref hs) (C := R_TS) (T := F_TS) (N := 9) hx hb hts in_TS hown hK hP 0 rfl rfl 1 (by decide) (hts _ kw_143) (fun _ h9 => h9) rfl d_TS_attempt_69 ?_
          refine va_getN (D := (dC, dI)) (ci := 2) (v := .ref hw) (C := R_St) (T := F_St) (N := 4) hx hb hts in_St hown hK hP 3 rfl rfl 0 (by decide) (va_Nw.use rfl (nst_4 hKN.2)) (fun _ h9 => h9) rfl d_TS_attempt_72 ?_
          refine lv_iload_n hx hb d_TS_attempt_75 rfl (lv_at hl 1 rfl) ?_
          refine lv_iload hx hb d_TS_attempt_76 (lv_at hl 0 rfl) ?_
          refine pr_call (va_runS (As := [.ref hw, .int (nI (k * 17)), .int (nI 0)]) (rest := []) ⟨hx, hb, hml, hown, hts⟩ (c_PW_isStageWhole l dC dI cI (ha := hw) (b := k * 17) (k := 0) (N := 40) (f := M) (hN := (by omega)) (hbN := (by omega)) (hk := (by omega))) ⟨callB_of 3 hts (gd kw_231) rfl rfl rfl (hts _ kw_38) (hts _ kw_323) (by decide +kernel) ⟨Nat.le_of_ble_eq_true rfl, Nat.le_of_ble_eq_true rfl⟩, (hts _ kw_230)⟩ ⟨fun a U g mk q => by obtain ⟨q0, qP, qK⟩ := q; exact ⟨q0, qP, qK.call⟩, fun U hU hW => ⟨rfl, by rw [hU]; exact hP.sub [4] rfl, hKN.warm hW⟩⟩ rfl rfl hl.1 rfl (lv_room (Nat.le_of_ble_eq_true rfl)) d_TS_attempt_78 ⟨Nat.zero_le _, Nat.zero_le _⟩) ?_
          refine bz_ne (tgt := 86) hx hb d_TS_attempt_81 (by decide) (fun h_6 => ?_) (fun h_6 => ?_)
          · refine lv_aload_n hx hb d_TS_attempt_86 rfl (lv_at hl 3 rfl) ?_
            refine lv_aload_n hx hb d_TS_attempt_87 rfl (lv_at hl 3 rfl) ?_
            refine va_get (D := (dC, dI)) (ci := 0) (v := .ref hs) (C := R_TS) (T := F_TS) (N := 9) hx hb hts in_TS hown hK hP 0 rfl rfl 1 (by decide) (hts _ kw_143) (fun _ h9 => h9) rfl d_TS_attempt_88 ?_
            refine va_getN (D := (dC, dI)) (ci := 2) (v := .ref hw) (C := R_St) (T := F_St) (N := 4) hx hb hts in_St hown hK hP 3 rfl rfl 0 (by decide) (va_Nw.use rfl (nst_4 hKN.2)) (fun _ h9 => h9) rfl d_TS_attempt_91 ?_
            refine lv_iload_n hx hb d_TS_attempt_94 rfl (lv_at hl 1 rfl) ?_
            refine lv_iconst (v := (nI 1)) hx hb d_TS_attempt_95 (by decide) ?_
            refine lv_iadd hx hb d_TS_attempt_96 ?_
            refine tp (nI_add _ _) ?_
            refine lv_iload hx hb d_TS_attempt_97 (lv_at hl 0 rfl) ?_
            refine lv_iadd hx hb d_TS_attempt_99 ?_
            refine tp (y := (nI ((k * 17) + 1))) (nI_add _ _) ?_
            refine ar_ld (k := (k * 17) + 1) hx hb hK hP 4 0 rfl rfl (by omega) (by first | decide | omega) d_TS_attempt_100 ?_
            have hPc := hP.sub (ws' := [(ht, .inr (0, [.ref hm, .ref hs, .ref hp, .int (nI cn), .int rn, .int (bI tr), .ref he, .int (nI 0), .int (nI 0)])), (he, .inl (cI, 3, .inl en))]) [0, 5] rfl
            have hDc := hD.sub (ws' := [(ht, .inr (0, [.ref hm, .ref hs, .ref hp, .int (nI cn), .int rn, .int (bI tr), .ref he, .int (nI 0), .int (nI 0)])), (he, .inl (cI, 3, .inl en))]) [0, 5] (by decide) rfl
            have hFc := va_free (wc := [(ht, .inr (0, [.ref hm, .ref hs, .ref hp, .int (nI cn), .int rn, .int (bI tr), .ref he, .int (nI 0), .int (nI 0)])), (he, .inl (cI, 3, .inl en))]) hD hS hA [0, 5] rfl
            refine va_callv (va_runV (As := [.int (M ((k * 17) + 1))]) (rest := []) ⟨hx, hb, hml, hown, hts⟩ (c_TS_enter l dC dI cI (ht := ht) (x := M ((k * 17) + 1)) (hm := hm) (hs := hs) (hp := hp) (cn := cn) (rn := rn) (tr := tr) (he := he) (ec := 0) (me := (nI 0)) (en := en) (hec := (by omega)) (sz := H.size)) ⟨callB_of 1 hts (gd kw_327) rfl rfl rfl (hts _ kw_35) (hts _ kw_324) (by decide +kernel) ⟨Nat.le_of_ble_eq_true rfl, Nat.le_of_ble_eq_true rfl⟩, (hts _ kw_326), (hts _ kw_13)⟩ ⟨fun a U g mk q => by obtain ⟨q0, q1, qP, qK, qD⟩ := q; exact ⟨q0, q1, qP, qK.call, qD⟩, va_recv hK hP (ci := 0) rfl (q0 := 0) rfl, fun U hU hW => ⟨rfl, by rw [hU], by rw [hU]; exact hPc, hKN.warm hW, hDc.weaken (fun _ _ _ _ => trivial)⟩⟩ rfl rfl hl.1 rfl (lv_room (Nat.le_of_ble_eq_true rfl)) d_TS_attempt_101 ⟨Nat.zero_le _, Nat.zero_le _⟩) hS (fun q _ h => hFc q h) hFc (fun u t H1 locs zt zvm zw zB zz zk hS => ?_)
            obtain ⟨en_7, ec_7, me_7⟩ := u
            have hu_7 := zw
            obtain ⟨hP1, hD1⟩ := zB
            rw [zt] at hP1
            have hP1 : va_P (dC, dI) classes [(ht, .inr (0, [.ref hm, .ref hs, .ref hp, .int (nI cn), .int rn, .int (bI tr), .ref he, .int (nI ec_7), .int me_7])), (he, .inl (cI, 3, .inl en_7))] H1 := hP1
            obtain ⟨hP, hD⟩ := va_join (wc := [(ht, .inr (0, [.ref hm, .ref hs, .ref hp, .int (nI cn), .int rn, .int (bI tr), .ref he, .int (nI 0), .int (nI 0)])), (he, .inl (cI, 3, .inl en))]) (wr := [(hm, .inr (1, [.int sc, .ref hn, .int (nI nk)])), (hn, .inl (cI, 16, .inl nd)), (hs, .inr (2, [.ref hw, .int (nI bl), .int dn, .int lf])), (hw, .inl (cI, 40, .inl M))]) (w1 := [(ht, .inr (0, [.ref hm, .ref hs, .ref hp, .int (nI cn), .int rn, .int (bI tr), .ref he, .int (nI ec_7), .int me_7])), (he, .inl (cI, 3, .inl en_7))]) hP hD [0, 5] [1, 2, 3, 4] rfl rfl (by decide) (by decide) zk hFc hP1 hD1
            generalize H1 = H at hP hS ⊢
            have hP : va_P (dC, dI) classes [(ht, .inr (0, [.ref hm, .ref hs, .ref hp, .int (nI cn), .int rn, .int (bI tr), .ref he, .int (nI ec_7), .int me_7])), (hm, .inr (1, [.int sc, .ref hn, .int (nI nk)])), (hn, .inl (cI, 16, .inl nd)), (hs, .inr (2, [.ref hw, .int (nI bl), .int dn, .int lf])), (hw, .inl (cI, 40, .inl M)), (he, .inl (cI, 3, .inl en_7))] H := hP.sub [4, 0, 1, 2, 3, 5] rfl
            have hD : va_D A [(ht, .inr (0, [.ref hm, .ref hs, .ref hp, .int (nI cn), .int rn, .int (bI tr), .ref he, .int (nI ec_7), .int me_7])), (hm, .inr (1, [.int sc, .ref hn, .int (nI nk)])), (hn, .inl (cI, 16, .inl nd)), (hs, .inr (2, [.ref hw, .int (nI bl), .int dn, .int lf])), (hw, .inl (cI, 40, .inl M)), (he, .inl (cI, 3, .inl en_7))] := hD.sub [4, 0, 1, 2, 3, 5] (by decide) rfl
            clear hPc hDc hFc hP1 hD1 zk zz zvm zt
            obtain ⟨rfl, rfl, rfl⟩ : upd en 0 (M ((k * 17) + 1)) = en_7 ∧ 1 = ec_7 ∧ hh (nI 0) (M ((k * 17) + 1)) = me_7 := by simpa [entr] using hu_7
            refine lv_iinc (k := 0) (v := (nI 1)) (lv' := [(4, .int (nI 1)), (3, .int (nI (k * 17))), (2, .int (M (k * 17))), (0, .ref ht), (1, .int (nI k))]) hx hb d_TS_attempt_104 hl rfl (by decide) (by decide) rfl (fun ls hl => ?_)
            refine lv_goto (tgt := 62) hx hb d_TS_attempt_107 (by decide) ?_
            refine lv_iload hx hb d_TS_attempt_62 (lv_at hl 0 rfl) ?_
            refine lv_iconst (v := (nI 3)) hx hb d_TS_attempt_64 (by decide) ?_
            refine nb_ge (tgt := 110) hx hb d_TS_attempt_65 (by decide) (by decide) (by decide) (fun h_8 => ?_) (fun h_8 => ?_)
            · exact absurd h_8 (by decide)
            · refine lv_aload_n hx hb d_TS_attempt_68 rfl (lv_at hl 3 rfl) ?_
              refine va_get (D := (dC, dI)) (ci := 0) (v := .ref hs) (C := R_TS) (T := F_TS) (N := 9) hx hb hts in_TS hown hK hP 0 rfl rfl 1 (by decide) (hts _ kw_143) (fun _ h9 => h9) rfl d_TS_attempt_69 ?_
              refine va_getN (D := (dC, dI)) (ci := 2) (v := .ref hw) (C := R_St) (T := F_St) (N := 4) hx hb hts in_St hown hK hP 3 rfl rfl 0 (by decide) (va_Nw.use rfl (nst_4 hKN.2)) (fun _ h9 => h9) rfl d_TS_attempt_72 ?_
              refine lv_iload_n hx hb d_TS_attempt_75 rfl (lv_at hl 1 rfl) ?_
              refine lv_iload hx hb d_TS_attempt_76 (lv_at hl 0 rfl) ?_
              refine pr_call (va_runS (As := [.ref hw, .int (nI (k * 17)), .int (nI 1)]) (rest := []) ⟨hx, hb, hml, hown, hts⟩ (c_PW_isStageWhole l dC dI cI (ha := hw) (b := k * 17) (k := 1) (N := 40) (f := M) (hN := (by omega)) (hbN := (by omega)) (hk := (by omega))) ⟨callB_of 3 hts (gd kw_231) rfl rfl rfl (hts _ kw_38) (hts _ kw_323) (by decide +kernel) ⟨Nat.le_of_ble_eq_true rfl, Nat.le_of_ble_eq_true rfl⟩, (hts _ kw_230)⟩ ⟨fun a U g mk q => by obtain ⟨q0, qP, qK⟩ := q; exact ⟨q0, qP, qK.call⟩, fun U hU hW => ⟨rfl, by rw [hU]; exact hP.sub [4] rfl, hKN.warm hW⟩⟩ rfl rfl hl.1 rfl (lv_room (Nat.le_of_ble_eq_true rfl)) d_TS_attempt_78 ⟨Nat.zero_le _, Nat.zero_le _⟩) ?_
              refine bz_ne (tgt := 86) hx hb d_TS_attempt_81 (by decide) (fun h_9 => ?_) (fun h_9 => ?_)
              · refine lv_aload_n hx hb d_TS_attempt_86 rfl (lv_at hl 3 rfl) ?_
                refine lv_aload_n hx hb d_TS_attempt_87 rfl (lv_at hl 3 rfl) ?_
                refine va_get (D := (dC, dI)) (ci := 0) (v := .ref hs) (C := R_TS) (T := F_TS) (N := 9) hx hb hts in_TS hown hK hP 0 rfl rfl 1 (by decide) (hts _ kw_143) (fun _ h9 => h9) rfl d_TS_attempt_88 ?_
                refine va_getN (D := (dC, dI)) (ci := 2) (v := .ref hw) (C := R_St) (T := F_St) (N := 4) hx hb hts in_St hown hK hP 3 rfl rfl 0 (by decide) (va_Nw.use rfl (nst_4 hKN.2)) (fun _ h9 => h9) rfl d_TS_attempt_91 ?_
                refine lv_iload_n hx hb d_TS_attempt_94 rfl (lv_at hl 1 rfl) ?_
                refine lv_iconst (v := (nI 1)) hx hb d_TS_attempt_95 (by decide) ?_
                refine lv_iadd hx hb d_TS_attempt_96 ?_
                refine tp (nI_add _ _) ?_
                refine lv_iload hx hb d_TS_attempt_97 (lv_at hl 0 rfl) ?_
                refine lv_iadd hx hb d_TS_attempt_99 ?_
                refine tp (y := (nI ((k * 17) + 2))) (nI_add _ _) ?_
                refine ar_ld (k := (k * 17) + 2) hx hb hK hP 4 0 rfl rfl (by omega) (by first | decide | omega) d_TS_attempt_100 ?_
                have hPc := hP.sub (ws' := [(ht, .inr (0, [.ref hm, .ref hs, .ref hp, .int (nI cn), .int rn, .int (bI tr), .ref he, .int (nI 1), .int (hh (nI 0) (M ((k * 17) + 1)))])), (he, .inl (cI, 3, .inl (upd en 0 (M ((k * 17) + 1)))))]) [0, 5] rfl
                have hDc := hD.sub (ws' := [(ht, .inr (0, [.ref hm, .ref hs, .ref hp, .int (nI cn), .int rn, .int (bI tr), .ref he, .int (nI 1), .int (hh (nI 0) (M ((k * 17) + 1)))])), (he, .inl (cI, 3, .inl (upd en 0 (M ((k * 17) + 1)))))]) [0, 5] (by decide) rfl
                have hFc := va_free (wc := [(ht, .inr (0, [.ref hm, .ref hs, .ref hp, .int (nI cn), .int rn, .int (bI tr), .ref he, .int (nI 1), .int (hh (nI 0) (M ((k * 17) + 1)))])), (he, .inl (cI, 3, .inl (upd en 0 (M ((k * 17) + 1)))))]) hD hS hA [0, 5] rfl
                refine va_callv (va_runV (As := [.int (M ((k * 17) + 2))]) (rest := []) ⟨hx, hb, hml, hown, hts⟩ (c_TS_enter l dC dI cI (ht := ht) (x := M ((k * 17) + 2)) (hm := hm) (hs := hs) (hp := hp) (cn := cn) (rn := rn) (tr := tr) (he := he) (ec := 1) (me := hh (nI 0) (M ((k * 17) + 1))) (en := upd en 0 (M ((k * 17) + 1))) (hec := (by omega)) (sz := H.size)) ⟨callB_of 1 hts (gd kw_327) rfl rfl rfl (hts _ kw_35) (hts _ kw_324) (by decide +kernel) ⟨Nat.le_of_ble_eq_true rfl, Nat.le_of_ble_eq_true rfl⟩, (hts _ kw_326), (hts _ kw_13)⟩ ⟨fun a U g mk q => by obtain ⟨q0, q1, qP, qK, qD⟩ := q; exact ⟨q0, q1, qP, qK.call, qD⟩, va_recv hK hP (ci := 0) rfl (q0 := 0) rfl, fun U hU hW => ⟨rfl, by rw [hU], by rw [hU]; exact hPc, hKN.warm hW, hDc.weaken (fun _ _ _ _ => trivial)⟩⟩ rfl rfl hl.1 rfl (lv_room (Nat.le_of_ble_eq_true rfl)) d_TS_attempt_101 ⟨Nat.zero_le _, Nat.zero_le _⟩) hS (fun q _ h => hFc q h) hFc (fun u t H1 locs zt zvm zw zB zz zk hS => ?_)
                obtain ⟨en_10, ec_10, me_10⟩ := u
                have hu_10 := zw
                obtain ⟨hP1, hD1⟩ := zB
                rw [zt] at hP1
                have hP1 : va_P (dC, dI) classes [(ht, .inr (0, [.ref hm, .ref hs, .ref hp, .int (nI cn), .int rn, .int (bI tr), .ref he, .int (nI ec_10), .int me_10])), (he, .inl (cI, 3, .inl en_10))] H1 := hP1
                obtain ⟨hP, hD⟩ := va_join (wc := [(ht, .inr (0, [.ref hm, .ref hs, .ref hp, .int (nI cn), .int rn, .int (bI tr), .ref he, .int (nI 1), .int (hh (nI 0) (M ((k * 17) + 1)))])), (he, .inl (cI, 3, .inl (upd en 0 (M ((k * 17) + 1)))))]) (wr := [(hm, .inr (1, [.int sc, .ref hn, .int (nI nk)])), (hn, .inl (cI, 16, .inl nd)), (hs, .inr (2, [.ref hw, .int (nI bl), .int dn, .int lf])), (hw, .inl (cI, 40, .inl M))]) (w1 := [(ht, .inr (0, [.ref hm, .ref hs, .ref hp, .int (nI cn), .int rn, .int (bI tr), .ref he, .int (nI ec_10), .int me_10])), (he, .inl (cI, 3, .inl en_10))]) hP hD [0, 5] [1, 2, 3, 4] rfl rfl (by decide) (by decide) zk hFc hP1 hD1
                generalize H1 = H at hP hS ⊢
                have hP : va_P (dC, dI) classes [(ht, .inr (0, [.ref hm, .ref hs, .ref hp, .int (nI cn), .int rn, .int (bI tr), .ref he, .int (nI ec_10), .int me_10])), (hm, .inr (1, [.int sc, .ref hn, .int (nI nk)])), (hn, .inl (cI, 16, .inl nd)), (hs, .inr (2, [.ref hw, .int (nI bl), .int dn, .int lf])), (hw, .inl (cI, 40, .inl M)), (he, .inl (cI, 3, .inl en_10))] H := hP.sub [4, 0, 1, 2, 3, 5] rfl
                have hD : va_D A [(ht, .inr (0, [.ref hm, .ref hs, .ref hp, .int (nI cn), .int rn, .int (bI tr), .ref he, .int (nI ec_10), .int me_10])), (hm, .inr (1, [.int sc, .ref hn, .int (nI nk)])), (hn, .inl (cI, 16, .inl nd)), (hs, .inr (2, [.ref hw, .int (nI bl), .int dn, .int lf])), (hw, .inl (cI, 40, .inl M)), (he, .inl (cI, 3, .inl en_10))] := hD.sub [4, 0, 1, 2, 3, 5] (by decide) rfl
                clear hPc hDc hFc hP1 hD1 zk zz zvm zt
                obtain ⟨rfl, rfl, rfl⟩ : upd (upd en 0 (M ((k * 17) + 1))) 1 (M ((k * 17) + 2)) = en_10 ∧ 2 = ec_10 ∧ hh (hh (nI 0) (M ((k * 17) + 1))) (M ((k * 17) + 2)) = me_10 := by simpa [entr] using hu_10
                refine lv_iinc (k := 0) (v := (nI 2)) (lv' := [(4, .int (nI 2)), (3, .int (nI (k * 17))), (2, .int (M (k * 17))), (0, .ref ht), (1, .int (nI k))]) hx hb d_TS_attempt_104 hl rfl (by decide) (by decide) rfl (fun ls hl => ?_)
                refine lv_goto (tgt := 62) hx hb d_TS_attempt_107 (by decide) ?_
                refine lv_iload hx hb d_TS_attempt_62 (lv_at hl 0 rfl) ?_
                refine lv_iconst (v := (nI 3)) hx hb d_TS_attempt_64 (by decide) ?_
                refine nb_ge (tgt := 110) hx hb d_TS_attempt_65 (by decide) (by decide) (by decide) (fun h_11 => ?_) (fun h_11 => ?_)
                · exact absurd h_11 (by decide)
                · refine lv_aload_n hx hb d_TS_attempt_68 rfl (lv_at hl 3 rfl) ?_
                  refine va_get (D := (dC, dI)) (ci := 0) (v := .ref hs) (C := R_TS) (T := F_TS) (N := 9) hx hb hts in_TS hown hK hP 0 rfl rfl 1 (by decide) (hts _ kw_143) (fun _ h9 => h9) rfl d_TS_attempt_69 ?_
                  refine va_getN (D := (dC, dI)) (ci := 2) (v := .ref hw) (C := R_St) (T := F_St) (N := 4) hx hb hts in_St hown hK hP 3 rfl rfl 0 (by decide) (va_Nw.use rfl (nst_4 hKN.2)) (fun _ h9 => h9) rfl d_TS_attempt_72 ?_
                  refine lv_iload_n hx hb d_TS_attempt_75 rfl (lv_at hl 1 rfl) ?_
                  refine lv_iload hx hb d_TS_attempt_76 (lv_at hl 0 rfl) ?_
                  refine pr_call (va_runS (As := [.ref hw, .int (nI (k * 17)), .int (nI 2)]) (rest := []) ⟨hx, hb, hml, hown, hts⟩ (c_PW_isStageWhole l dC dI cI (ha := hw) (b := k * 17) (k := 2) (N := 40) (f := M) (hN := (by omega)) (hbN := (by omega)) (hk := (by omega))) ⟨callB_of 3 hts (gd kw_231) rfl rfl rfl (hts _ kw_38) (hts _ kw_323) (by decide +kernel) ⟨Nat.le_of_ble_eq_true rfl, Nat.le_of_ble_eq_true rfl⟩, (hts _ kw_230)⟩ ⟨fun a U g mk q => by obtain ⟨q0, qP, qK⟩ := q; exact ⟨q0, qP, qK.call⟩, fun U hU hW => ⟨rfl, by rw [hU]; exact hP.sub [4] rfl, hKN.warm hW⟩⟩ rfl rfl hl.1 rfl (lv_room (Nat.le_of_ble_eq_true rfl)) d_TS_attempt_78 ⟨Nat.zero_le _, Nat.zero_le _⟩) ?_
                  refine bz_ne (tgt := 86) hx hb d_TS_attempt_81 (by decide) (fun h_12 => ?_) (fun h_12 => ?_)
                  · refine lv_aload_n hx hb d_TS_attempt_86 rfl (lv_at hl 3 rfl) ?_
                    refine lv_aload_n hx hb d_TS_attempt_87 rfl (lv_at hl 3 rfl) ?_
                    refine va_get (D := (dC, dI)) (ci := 0) (v := .ref hs) (C := R_TS) (T := F_TS) (N := 9) hx hb hts in_TS hown hK hP 0 rfl rfl 1 (by decide) (hts _ kw_143) (fun _ h9 => h9) rfl d_TS_attempt_88 ?_
                    refine va_getN (D := (dC, dI)) (ci := 2) (v := .ref hw) (C := R_St) (T := F_St) (N := 4) hx hb hts in_St hown hK hP 3 rfl rfl 0 (by decide) (va_Nw.use rfl (nst_4 hKN.2)) (fun _ h9 => h9) rfl d_TS_attempt_91 ?_
                    refine lv_iload_n hx hb d_TS_attempt_94 rfl (lv_at hl 1 rfl) ?_
                    refine lv_iconst (v := (nI 1)) hx hb d_TS_attempt_95 (by decide) ?_
                    refine lv_iadd hx hb d_TS_attempt_96 ?_
                    refine tp (nI_add _ _) ?_
                    refine lv_iload hx hb d_TS_attempt_97 (lv_at hl 0 rfl) ?_
                    refine lv_iadd hx hb d_TS_attempt_99 ?_
                    refine tp (y := (nI ((k * 17) + 3))) (nI_add _ _) ?_
                    refine ar_ld (k := (k * 17) + 3) hx hb hK hP 4 0 rfl rfl (by omega) (by first | decide | omega) d_TS_attempt_100 ?_
                    have hPc := hP.sub (ws' := [(ht, .inr (0, [.ref hm, .ref hs, .ref hp, .int (nI cn), .int rn, .int (bI tr), .ref he, .int (nI 2), .int (hh (hh (nI 0) (M ((k * 17) + 1))) (M ((k * 17) + 2)))])), (he, .inl (cI, 3, .inl (upd (upd en 0 (M ((k * 17) + 1))) 1 (M ((k * 17) + 2)))))]) [0, 5] rfl
                    have hDc := hD.sub (ws' := [(ht, .inr (0, [.ref hm, .ref hs, .ref hp, .int (nI cn), .int rn, .int (bI tr), .ref he, .int (nI 2), .int (hh (hh (nI 0) (M ((k * 17) + 1))) (M ((k * 17) + 2)))])), (he, .inl (cI, 3, .inl (upd (upd en 0 (M ((k * 17) + 1))) 1 (M ((k * 17) + 2)))))]) [0, 5] (by decide) rfl
                    have hFc := va_free (wc := [(ht, .inr (0, [.ref hm, .ref hs, .ref hp, .int (nI cn), .int rn, .int (bI tr), .ref he, .int (nI 2), .int (hh (hh (nI 0) (M ((k * 17) + 1))) (M ((k * 17) + 2)))])), (he, .inl (cI, 3, .inl (upd (upd en 0 (M ((k * 17) + 1))) 1 (M ((k * 17) + 2)))))]) hD hS hA [0, 5] rfl
                    refine va_callv (va_runV (As := [.int (M ((k * 17) + 3))]) (rest := []) ⟨hx, hb, hml, hown, hts⟩ (c_TS_enter l dC dI cI (ht := ht) (x := M ((k * 17) + 3)) (hm := hm) (hs := hs) (hp := hp) (cn := cn) (rn := rn) (tr := tr) (he := he) (ec := 2) (me := hh (hh (nI 0) (M ((k * 17) + 1))) (M ((k * 17) + 2))) (en := upd (upd en 0 (M ((k * 17) + 1))) 1 (M ((k * 17) + 2))) (hec := (by omega)) (sz := H.size)) ⟨callB_of 1 hts (gd kw_327) rfl rfl rfl (hts _ kw_35) (hts _ kw_324) (by decide +kernel) ⟨Nat.le_of_ble_eq_true rfl, Nat.le_of_ble_eq_true rfl⟩, (hts _ kw_326), (hts _ kw_13)⟩ ⟨fun a U g mk q => by obtain ⟨q0, q1, qP, qK, qD⟩ := q; exact ⟨q0, q1, qP, qK.call, qD⟩, va_recv hK hP (ci := 0) rfl (q0 := 0) rfl, fun U hU hW => ⟨rfl, by rw [hU], by rw [hU]; exact hPc, hKN.warm hW, hDc.weaken (fun _ _ _ _ => trivial)⟩⟩ rfl rfl hl.1 rfl (lv_room (Nat.le_of_ble_eq_true rfl)) d_TS_attempt_101 ⟨Nat.zero_le _, Nat.zero_le _⟩) hS (fun q _ h => hFc q h) hFc (fun u t H1 locs zt zvm zw zB zz zk hS => ?_)
                    obtain ⟨en_13, ec_13, me_13⟩ := u
                    have hu_13 := zw
                    obtain ⟨hP1, hD1⟩ := zB
                    rw [zt] at hP1
                    have hP1 : va_P (dC, dI) classes [(ht, .inr (0, [.ref hm, .ref hs, .ref hp, .int (nI cn), .int rn, .int (bI tr), .ref he, .int (nI ec_13), .int me_13])), (he, .inl (cI, 3, .inl en_13))] H1 := hP1
                    obtain ⟨hP, hD⟩ := va_join (wc := [(ht, .inr (0, [.ref hm, .ref hs, .ref hp, .int (nI cn), .int rn, .int (bI tr), .ref he, .int (nI 2), .int (hh (hh (nI 0) (M ((k * 17) + 1))) (M ((k * 17) + 2)))])), (he, .inl (cI, 3, .inl (upd (upd en 0 (M ((k * 17) + 1))) 1 (M ((k * 17) + 2)))))]) (wr := [(hm, .inr (1, [.int sc, .ref hn, .int (nI nk)])), (hn, .inl (cI, 16, .inl nd)), (hs, .inr (2, [.ref hw, .int (nI bl), .int dn, .int lf])), (hw, .inl (cI, 40, .inl M))]) (w1 := [(ht, .inr (0, [.ref hm, .ref hs, .ref hp, .int (nI cn), .int rn, .int (bI tr), .ref he, .int (nI ec_13), .int me_13])), (he, .inl (cI, 3, .inl en_13))]) hP hD [0, 5] [1, 2, 3, 4] rfl rfl (by decide) (by decide) zk hFc hP1 hD1
                    generalize H1 = H at hP hS ⊢
                    have hP : va_P (dC, dI) classes [(ht, .inr (0, [.ref hm, .ref hs, .ref hp, .int (nI cn), .int rn, .int (bI tr), .ref he, .int (nI ec_13), .int me_13])), (hm, .inr (1, [.int sc, .ref hn, .int (nI nk)])), (hn, .inl (cI, 16, .inl nd)), (hs, .inr (2, [.ref hw, .int (nI bl), .int dn, .int lf])), (hw, .inl (cI, 40, .inl M)), (he, .inl (cI, 3, .inl en_13))] H := hP.sub [4, 0, 1, 2, 3, 5] rfl
                    have hD : va_D A [(ht, .inr (0, [.ref hm, .ref hs, .ref hp, .int (nI cn), .int rn, .int (bI tr), .ref he, .int (nI ec_13), .int me_13])), (hm, .inr (1, [.int sc, .ref hn, .int (nI nk)])), (hn, .inl (cI, 16, .inl nd)), (hs, .inr (2, [.ref hw, .int (nI bl), .int dn, .int lf])), (hw, .inl (cI, 40, .inl M)), (he, .inl (cI, 3, .inl en_13))] := hD.sub [4, 0, 1, 2, 3, 5] (by decide) rfl
                    clear hPc hDc hFc hP1 hD1 zk zz zvm zt
                    obtain ⟨rfl, rfl, rfl⟩ : upd (upd (upd en 0 (M ((k * 17) + 1))) 1 (M ((k * 17) + 2))) 2 (M ((k * 17) + 3)) = en_13 ∧ 3 = ec_13 ∧ hh (hh (hh (nI 0) (M ((k * 17) + 1))) (M ((k * 17) + 2))) (M ((k * 17) + 3)) = me_13 := by simpa [entr] using hu_13
                    refine lv_iinc (k := 0) (v := (nI 3)) (lv' := [(4, .int (nI 3)), (3, .int (nI (k * 17))), (2, .int (M (k * 17))), (0, .ref ht), (1, .int (nI k))]) hx hb d_TS_attempt_104 hl rfl (by decide) (by decide) rfl (fun ls hl => ?_)
                    refine lv_goto (tgt := 62) hx hb d_TS_attempt_107 (by decide) ?_
                    refine lv_iload hx hb d_TS_attempt_62 (lv_at hl 0 rfl) ?_
                    refine lv_iconst (v := (nI 3)) hx hb d_TS_attempt_64 (by decide) ?_
                    refine nb_ge (tgt := 110) hx hb d_TS_attempt_65 (by decide) (by decide) (by decide) (fun h_14 => ?_) (fun h_14 => ?_)
                    · refine lv_iconst (v := (nI 1)) hx hb d_TS_attempt_110 (by decide) ?_
                      exact W.zret (v := (bI true)) hx hb hr (bI_narrow _) (fun t ht hW => ⟨⟨_, (upd (upd (upd en 0 (M ((k * 17) + 1))) 1 (M ((k * 17) + 2))) 2 (M ((k * 17) + 3)), 3, hh (hh (hh (nI 0) (M ((k * 17) + 1))) (M ((k * 17) + 2))) (M ((k * 17) + 3))), rfl, ⟨true, rfl, (by simp [att, h_2, h_3, h_4, h_6, h_9, h_12])⟩, by rw [ht]; exact hP, hD⟩, hS.F ht⟩) hS.2.2 d_TS_attempt_111
                    · exact absurd h_14 (by decide)
                  · refine lv_iconst (v := (nI 0)) hx hb d_TS_attempt_84 (by decide) ?_
                    exact W.zret (v := (bI false)) hx hb hr (bI_narrow _) (fun t ht hW => ⟨⟨_, (upd (upd en 0 (M ((k * 17) + 1))) 1 (M ((k * 17) + 2)), 2, hh (hh (nI 0) (M ((k * 17) + 1))) (M ((k * 17) + 2))), rfl, ⟨false, rfl, (by simp [att, h_2, h_3, h_4, h_6, h_9, h_12])⟩, by rw [ht]; exact hP, hD⟩, hS.F ht⟩) hS.2.2 d_TS_attempt_85
              · refine lv_iconst (v := (nI 0)) hx hb d_TS_attempt_84 (by decide) ?_
                exact W.zret (v := (bI false)) hx hb hr (bI_narrow _) (fun t ht hW => ⟨⟨_, (upd en 0 (M ((k * 17) + 1)), 1, hh (nI 0) (M ((k * 17) + 1))), rfl, ⟨false, rfl, (by simp [att, h_2, h_3, h_4, h_6, h_9])⟩, by rw [ht]; exact hP, hD⟩, hS.F ht⟩) hS.2.2 d_TS_attempt_85
          · refine lv_iconst (v := (nI 0)) hx hb d_TS_attempt_84 (by decide) ?_
            exact W.zret (v := (bI false)) hx hb hr (bI_narrow _) (fun t ht hW => ⟨⟨_, (en, 0, (nI 0)), rfl, ⟨false, rfl, (by simp [att, h_2, h_3, h_4, h_6])⟩, by rw [ht]; exact hP, hD⟩, hS.F ht⟩) hS.2.2 d_TS_attempt_85
      · refine lv_iconst (v := (nI 0)) hx hb d_TS_attempt_57 (by decide) ?_
        exact W.zret (v := (bI false)) hx hb hr (bI_narrow _) (fun t ht hW => ⟨⟨_, (en, 0, (nI 0)), rfl, ⟨false, rfl, (by simp [att, h_2, h_3, h_4])⟩, by rw [ht]; exact hP, hD⟩, hS.F ht⟩) hS.2.2 d_TS_attempt_58
