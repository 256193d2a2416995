set_option maxHeartbeats 4000000 in
set_option maxRecDepth 100000 in
theorem c_Mo_h (l : Launch) (dC : Nat → ClassId) (dI : Nat → Nat → Nat) (cI : ClassId) (a : Int32) (b : Int32)  : Met l y_Mo_h w_Mo_h ({ frames := 0, cells := 0, slots := 0, locals := 0 }) (va_Pc [.int a, .int b] (fun U => va_P (dC, dI) classes [] U.heap ∧ KN dC dI cI U)) (qr (hh a b)) 0 0 (fun _ => False) := by
  refine Met.ofW (cc := b_Mo_h) (maxL := 3) (ret := (some .int)) (by decide) rfl ?_
  intro p e s m args below meth c s₁ B hml hv
  obtain ⟨rfl, hP, hKN⟩ := hv
  have hK := hKN.1
  have hx := B.exec
  have hb := B.bytes
  have hr := B.returns
  have hts := fun (w : Cond) (h : w ∈ gt) => atoms_spec (ws := w_Mo_h) B.pre w (List.mem_cons_of_mem _ h)
  have hown : s.vm.findClass R_Mo = some m.cls := findClass_of_methodNamed B.named
  have hlocks := B.notSynchronized
  have hl := lv_entry ([.int a, .int b]) (n := 3) (Nat.le_of_ble_eq_true rfl)
  rw [lg_entry_eq]
  generalize (lg_sl ([.int a, .int b]) ++ List.replicate (3 - (lg_sl ([.int a, .int b])).length) Slot.unset).toArray = ls at hl ⊢
  have hl : lv_has ls 3 [(0, .int a), (1, .int b)] := hl
  refine lv_iload_n hx hb d_Mo_h_0 rfl (lv_at hl 0 rfl) ?_
  refine lv_ldc (v := 1398175271) hx hb hown (hts _ kw_412) d_Mo_h_1 ?_
  refine lv_ixor hx hb d_Mo_h_3 ?_
  refine lv_ldc (v := 796343837) hx hb hown (hts _ kw_413) d_Mo_h_4 ?_
  refine lv_imul hx hb d_Mo_h_6 ?_
  refine lv_iload_n hx hb d_Mo_h_7 rfl (lv_at hl 1 rfl) ?_
  refine lv_iadd hx hb d_Mo_h_8 ?_
  refine lv_istore_n (lv' := [(2, .int (((a ^^^ 1398175271) * 796343837) + b)), (0, .int a), (1, .int b)]) hx hb d_Mo_h_9 rfl hl (by decide) rfl (fun ls hl => ?_)
  refine lv_iload_n hx hb d_Mo_h_10 rfl (lv_at hl 0 rfl) ?_
  refine lv_iload_n hx hb d_Mo_h_11 rfl (lv_at hl 0 rfl) ?_
  refine lv_bipush (v := (nI 13)) hx hb d_Mo_h_12 (by decide) ?_
  refine lv_iushr (v := ush (((a ^^^ 1398175271) * 796343837) + b) (nI 13)) hx hb d_Mo_h_14 rfl ?_
  refine lv_ixor hx hb d_Mo_h_15 ?_
  refine lv_istore_n (lv' := [(2, .int ((((a ^^^ 1398175271) * 796343837) + b) ^^^ (ush (((a ^^^ 1398175271) * 796343837) + b) (nI 13)))), (0, .int a), (1, .int b)]) hx hb d_Mo_h_16 rfl hl (by decide) rfl (fun ls hl => ?_)
  refine lv_iload_n hx hb d_Mo_h_17 rfl (lv_at hl 0 rfl) ?_
  refine lv_ldc (v := 1398175271) hx hb hown (hts _ kw_412) d_Mo_h_18 ?_
  refine lv_imul hx hb d_Mo_h_20 ?_
  refine lv_istore_n (lv' := [(2, .int (((((a ^^^ 1398175271) * 796343837) + b) ^^^ (ush (((a ^^^ 1398175271) * 796343837) + b) (nI 13))) * 1398175271)), (0, .int a), (1, .int b)]) hx hb d_Mo_h_21 rfl hl (by decide) rfl (fun ls hl => ?_)
  refine lv_iload_n hx hb d_Mo_h_22 rfl (lv_at hl 0 rfl) ?_
  refine lv_iload_n hx hb d_Mo_h_23 rfl (lv_at hl 0 rfl) ?_
  refine lv_bipush (v := (nI 16)) hx hb d_Mo_h_24 (by decide) ?_
  refine lv_iushr (v := ush (((((a ^^^ 1398175271) * 796343837) + b) ^^^ (ush (((a ^^^ 1398175271) * 796343837) + b) (nI 13))) * 1398175271) (nI 16)) hx hb d_Mo_h_26 rfl ?_
  refine lv_ixor hx hb d_Mo_h_27 ?_
  exact W.iret (v := ((((((a ^^^ 1398175271) * 796343837) + b) ^^^ (ush (((a ^^^ 1398175271) * 796343837) + b) (nI 13))) * 1398175271) ^^^ (ush (((((a ^^^ 1398175271) * 796343837) + b) ^^^ (ush (((a ^^^ 1398175271) * 796343837) + b) (nI 13))) * 1398175271) (nI 16)))) hx hb hr (fun t ht hW => ⟨_, rfl, (by first | rfl | (simp only []; done) | (simp only []; rfl) | (simp []; done)), ht⟩) (fun q h => by cases h) d_Mo_h_28
set_option maxHeartbeats 4000000 in
set_option maxRecDepth 100000 in
theorem c_Mo_check (l : Launch) (dC : Nat → ClassId) (dI : Nat → Nat → Nat) (cI : ClassId) (a : Int32) (b : Int32)  : Met l y_Mo_check w_Mo_check ({ frames := 1, cells := 0, slots := 0, locals := 22 }) (va_Pc [.int a, .int b] (fun U => va_P (dC, dI) classes [] U.heap ∧ KN dC dI cI U)) (qr (ck a b)) 0 0 (fun _ => False) := by
  refine Met.ofW (cc := b_Mo_check) (maxL := 3) (ret := (some .int)) (by decide) rfl ?_
  intro p e s m args below meth c s₁ B hml hv
  obtain ⟨rfl, hP, hKN⟩ := hv
  have hK := hKN.1
  have hx := B.exec
  have hb := B.bytes
  have hr := B.returns
  have hts := fun (w : Cond) (h : w ∈ gt) => atoms_spec (ws := w_Mo_check) B.pre w (List.mem_cons_of_mem _ h)
  have hown : s.vm.findClass R_Mo = some m.cls := findClass_of_methodNamed B.named
  have hlocks := B.notSynchronized
  have hl := lv_entry ([.int a, .int b]) (n := 3) (Nat.le_of_ble_eq_true rfl)
  rw [lg_entry_eq]
  generalize (lg_sl ([.int a, .int b]) ++ List.replicate (3 - (lg_sl ([.int a, .int b])).length) Slot.unset).toArray = ls at hl ⊢
  have hl : lv_has ls 3 [(0, .int a), (1, .int b)] := hl
  refine lv_iload_n hx hb d_Mo_check_0 rfl (lv_at hl 0 rfl) ?_
  refine lv_iload_n hx hb d_Mo_check_1 rfl (lv_at hl 1 rfl) ?_
  refine pr_call (va_runS (As := [.int a, .int b]) (rest := []) ⟨hx, hb, hml, hown, hts⟩ (c_Mo_h l dC dI cI (a := a) (b := b) ) ⟨callB_of 2 hts (gd kw_411) rfl rfl rfl (hts _ kw_41) (hts _ kw_409) (by decide +kernel) ⟨Nat.le_of_ble_eq_true rfl, Nat.le_of_ble_eq_true rfl⟩, (hts _ kw_410)⟩ ⟨fun a U g mk q => by obtain ⟨q0, qP, qK⟩ := q; exact ⟨q0, qP, qK.call⟩, fun U hU hW => ⟨rfl, by rw [hU]; exact hP.sub [] rfl, hKN.warm hW⟩⟩ rfl rfl hl.1 rfl (lv_room (Nat.le_of_ble_eq_true rfl)) d_Mo_check_2 ⟨Nat.zero_le _, Nat.zero_le _⟩) ?_
  refine lv_istore_n (lv' := [(2, .int (hh a b)), (0, .int a), (1, .int b)]) hx hb d_Mo_check_5 rfl hl (by decide) rfl (fun ls hl => ?_)
  refine lv_iload_n hx hb d_Mo_check_6 rfl (lv_at hl 0 rfl) ?_
  refine lv_iconst (v := (nI 5)) hx hb d_Mo_check_7 (by decide) ?_
  refine pr_call (va_runS (As := [.int (hh a b), .int (nI 5)]) (rest := []) ⟨hx, hb, hml, hown, hts⟩ (c_Mo_h l dC dI cI (a := hh a b) (b := (nI 5)) ) ⟨callB_of 2 hts (gd kw_411) rfl rfl rfl (hts _ kw_41) (hts _ kw_409) (by decide +kernel) ⟨Nat.le_of_ble_eq_true rfl, Nat.le_of_ble_eq_true rfl⟩, (hts _ kw_410)⟩ ⟨fun a U g mk q => by obtain ⟨q0, qP, qK⟩ := q; exact ⟨q0, qP, qK.call⟩, fun U hU hW => ⟨rfl, by rw [hU]; exact hP.sub [] rfl, hKN.warm hW⟩⟩ rfl rfl hl.1 rfl (lv_room (Nat.le_of_ble_eq_true rfl)) d_Mo_check_8 ⟨Nat.zero_le _, Nat.zero_le _⟩) ?_
  exact W.iret (v := (hh (hh a b) (nI 5))) hx hb hr (fun t ht hW => ⟨_, rfl, (by first | rfl | (simp only []; done) | (simp only []; rfl) | (simp []; done)), ht⟩) (fun q h => by cases h) d_Mo_check_11
set_option maxHeartbeats 4000000 in
set_option maxRecDepth 100000 in
theorem c_Mo_along (l : Launch) (dC : Nat → ClassId) (dI : Nat → Nat → Nat) (cI : ClassId) (x : Int32) (ch : Nat) (fr : Nat) (to : Nat) (hfr : fr ≤ 15) (hto : to ≤ 15) : Met l y_Mo_along w_Mo_along ({ frames := 1, cells := 0, slots := 0, locals := 22 }) (va_Pc [.int x, .int (nI ch), .int (nI fr), .int (nI to)] (fun U => va_P (dC, dI) classes [] U.heap ∧ KN dC dI cI U)) (qr (al ch (to - fr) fr x)) 0 0 (fun _ => False) := by
  refine Met.ofW (cc := b_Mo_along) (maxL := 6) (ret := (some .int)) (by decide) rfl ?_
  intro p e s m args below meth c s₁ B hml hv
  obtain ⟨rfl, hP, hKN⟩ := hv
  have hK := hKN.1
  have hx := B.exec
  have hb := B.bytes
  have hr := B.returns
  have hts := fun (w : Cond) (h : w ∈ gt) => atoms_spec (ws := w_Mo_along) B.pre w (List.mem_cons_of_mem _ h)
  have hown : s.vm.findClass R_Mo = some m.cls := findClass_of_methodNamed B.named
  have hlocks := B.notSynchronized
  have hl := lv_entry ([.int x, .int (nI ch), .int (nI fr), .int (nI to)]) (n := 6) (Nat.le_of_ble_eq_true rfl)
  rw [lg_entry_eq]
  generalize (lg_sl ([.int x, .int (nI ch), .int (nI fr), .int (nI to)]) ++ List.replicate (6 - (lg_sl ([.int x, .int (nI ch), .int (nI fr), .int (nI to)])).length) Slot.unset).toArray = ls at hl ⊢
  have hl : lv_has ls 6 [(0, .int x), (1, .int (nI ch)), (2, .int (nI fr)), (3, .int (nI to))] := hl
  refine lv_iload_n hx hb d_Mo_along_0 rfl (lv_at hl 0 rfl) ?_
  refine lv_istore (lv' := [(4, .int x), (0, .int x), (1, .int (nI ch)), (2, .int (nI fr)), (3, .int (nI to))]) hx hb d_Mo_along_1 hl (by decide) rfl (fun ls hl => ?_)
  refine lv_iload_n hx hb d_Mo_along_3 rfl (lv_at hl 3 rfl) ?_
  refine lv_istore (lv' := [(5, .int (nI fr)), (4, .int x), (0, .int x), (1, .int (nI ch)), (2, .int (nI fr)), (3, .int (nI to))]) hx hb d_Mo_along_4 hl (by decide) rfl (fun ls hl => ?_)
  refine wloopP (ι := Int32 × Nat) (fun i => to - (i.2)) (fun i ls => ((i.2) ≤ 15 ∧ al ch (to - fr) fr x = al ch (to - (i.2)) (i.2) (i.1)) ∧ lv_has ls 6 [(5, .int (nI (i.2))), (4, .int (i.1)), (0, .int x), (1, .int (nI ch)), (2, .int (nI fr)), (3, .int (nI to))]) ?_ (x, fr) ⟨⟨by omega, rfl⟩, hl⟩
  clear hl
  rintro ⟨y, k⟩ ls ⟨hinv, hl⟩ ih
  dsimp only at hinv hl ih
  obtain ⟨hk15, hk⟩ := hinv
  have hinv := And.intro hk15 hk
  refine lv_iload hx hb d_Mo_along_6 (lv_at hl 0 rfl) ?_
  refine lv_iload_n hx hb d_Mo_along_8 rfl (lv_at hl 5 rfl) ?_
  refine nb_ge (tgt := 32) hx hb d_Mo_along_9 (by decide) (by first | omega | exact Nat.lt_of_lt_of_le (stt_lt _ _) (by decide)) (by first | omega | exact Nat.lt_of_lt_of_le (stt_lt _ _) (by decide)) (fun h_1 => ?_) (fun h_1 => ?_)
  · refine lv_iload hx hb d_Mo_along_32 (lv_at hl 1 rfl) ?_
    exact W.iret (v := y) hx hb hr (fun t ht hW => ⟨_, rfl, (by rw [hk, show to - k = 0 by omega, al_0]), ht⟩) (fun q h => by cases h) d_Mo_along_34
  · refine lv_iload hx hb d_Mo_along_12 (lv_at hl 1 rfl) ?_
    refine lv_bipush (v := (nI 16)) hx hb d_Mo_along_14 (by decide) ?_
    refine lv_iload_n hx hb d_Mo_along_16 rfl (lv_at hl 3 rfl) ?_
    refine lv_imul hx hb d_Mo_along_17 ?_
    refine tp (pk_mul _ _) ?_
    refine lv_iload hx hb d_Mo_along_18 (lv_at hl 0 rfl) ?_
    refine lv_iadd hx hb d_Mo_along_20 ?_
    refine tp (nI_add _ _) ?_
    refine pr_call (va_runS (As := [.int y, .int (nI ((16 * ch) + k))]) (rest := []) ⟨hx, hb, hml, hown, hts⟩ (c_Mo_h l dC dI cI (a := y) (b := (nI ((16 * ch) + k))) ) ⟨callB_of 2 hts (gd kw_411) rfl rfl rfl (hts _ kw_41) (hts _ kw_409) (by decide +kernel) ⟨Nat.le_of_ble_eq_true rfl, Nat.le_of_ble_eq_true rfl⟩, (hts _ kw_410)⟩ ⟨fun a U g mk q => by obtain ⟨q0, qP, qK⟩ := q; exact ⟨q0, qP, qK.call⟩, fun U hU hW => ⟨rfl, by rw [hU]; exact hP.sub [] rfl, hKN.warm hW⟩⟩ rfl rfl hl.1 rfl (lv_room (Nat.le_of_ble_eq_true rfl)) d_Mo_along_21 ⟨Nat.zero_le _, Nat.zero_le _⟩) ?_
    refine lv_istore (lv' := [(4, .int (hh y (nI ((16 * ch) + k)))), (5, .int (nI k)), (0, .int x), (1, .int (nI ch)), (2, .int (nI fr)), (3, .int (nI to))]) hx hb d_Mo_along_24 hl (by decide) rfl (fun ls hl => ?_)
    refine lv_iinc (k := 1) (v := (nI (k + 1))) (lv' := [(5, .int (nI (k + 1))), (4, .int (hh y (nI ((16 * ch) + k)))), (0, .int x), (1, .int (nI ch)), (2, .int (nI fr)), (3, .int (nI to))]) hx hb d_Mo_along_26 hl rfl (nI_inc _) (by decide) rfl (fun ls hl => ?_)
    refine lv_goto (tgt := 6) hx hb d_Mo_along_29 (by decide) ?_
    exact ih (hh y (nI ((16 * ch) + k)), k + 1) ls (by show to - (k + 1) < to - k; omega) ⟨⟨by (try dsimp only); omega, by rw [hinv.2, show to - k = (to - (k + 1)) + 1 by omega, al_s]⟩, hl⟩
set_option maxHeartbeats 4000000 in
set_option maxRecDepth 100000 in
theorem c_Mo_chain (l : Launch) (dC : Nat → ClassId) (dI : Nat → Nat → Nat) (cI : ClassId) (hm : Nat) (q : Nat) (ch : Nat) (pl : Nat) (sc : Int32) (hw : Nat) (cn : Nat) (fu : Nat) (lf : Int32) (dd : Bool) (dn : Int32) (rn : Int32) (tr : Bool) (lg : Nat) (he : Nat) (me : Int32) (hd : Nat) (hen : Nat) (hnd : Nat) (hpl : pl ≤ 15) : Met l y_Mo_chain w_Mo_chain ({ frames := 2, cells := 0, slots := 0, locals := 47 }) (va_Pc [.ref hm, .int (nI q), .int (nI ch), .int (nI pl)] (fun U => va_P (dC, dI) classes [(hm, .inr (3, [.int sc, .ref hw, .int (nI cn), .int (nI fu), .int lf, .int (bI dd), .int dn, .int rn, .int (bI tr), .int (nI lg), .ref he, .int me, .ref hd, .ref hen, .ref hnd]))] U.heap ∧ KN dC dI cI U)) (qr (al ch pl 0 (cs sc q ch))) 0 0 (fun _ => False) := by
  refine Met.ofW (cc := b_Mo_chain) (maxL := 5) (ret := (some .int)) (by decide) rfl ?_
  intro p e s m args below meth c s₁ B hml hv
  obtain ⟨rfl, hP, hKN⟩ := hv
  have hK := hKN.1
  have hx := B.exec
  have hb := B.bytes
  have hr := B.returns
  have hts := fun (w : Cond) (h : w ∈ gt) => atoms_spec (ws := w_Mo_chain) B.pre w (List.mem_cons_of_mem _ h)
  have hown : s.vm.findClass R_Mo = some m.cls := findClass_of_methodNamed B.named
  have hlocks := B.notSynchronized
  have hl := lv_entry ([.ref hm, .int (nI q), .int (nI ch), .int (nI pl)]) (n := 5) (Nat.le_of_ble_eq_true rfl)
  rw [lg_entry_eq]
  generalize (lg_sl ([.ref hm, .int (nI q), .int (nI ch), .int (nI pl)]) ++ List.replicate (5 - (lg_sl ([.ref hm, .int (nI q), .int (nI ch), .int (nI pl)])).length) Slot.unset).toArray = ls at hl ⊢
  have hl : lv_has ls 5 [(0, .ref hm), (1, .int (nI q)), (2, .int (nI ch)), (3, .int (nI pl))] := hl
  refine lv_aload_n hx hb d_Mo_chain_0 rfl (lv_at hl 0 rfl) ?_
  refine va_get (D := (dC, dI)) (ci := 3) (v := .int sc) (C := R_Mo) (T := F_Mo) (N := 15) hx hb hts in_Mo hown hK hP 0 rfl rfl 0 (by decide) (hts _ kw_439) (fun _ h9 => h9) rfl d_Mo_chain_1 ?_
  refine lv_iload_n hx hb d_Mo_chain_4 rfl (lv_at hl 1 rfl) ?_
  refine pr_call (va_runS (As := [.int sc, .int (nI q)]) (rest := []) ⟨hx, hb, hml, hown, hts⟩ (c_Mo_h l dC dI cI (a := sc) (b := (nI q)) ) ⟨callB_of 2 hts (gd kw_411) rfl rfl rfl (hts _ kw_41) (hts _ kw_409) (by decide +kernel) ⟨Nat.le_of_ble_eq_true rfl, Nat.le_of_ble_eq_true rfl⟩, (hts _ kw_410)⟩ ⟨fun a U g mk q => by obtain ⟨q0, qP, qK⟩ := q; exact ⟨q0, qP, qK.call⟩, fun U hU hW => ⟨rfl, by rw [hU]; exact hP.sub [] rfl, hKN.warm hW⟩⟩ rfl rfl hl.1 rfl (lv_room (Nat.le_of_ble_eq_true rfl)) d_Mo_chain_5 ⟨Nat.zero_le _, Nat.zero_le _⟩) ?_
  refine lv_istore (lv' := [(4, .int (hh sc (nI q))), (0, .ref hm), (1, .int (nI q)), (2, .int (nI ch)), (3, .int (nI pl))]) hx hb d_Mo_chain_8 hl (by decide) rfl (fun ls hl => ?_)
  refine lv_iload hx hb d_Mo_chain_10 (lv_at hl 0 rfl) ?_
  refine lv_iload_n hx hb d_Mo_chain_12 rfl (lv_at hl 3 rfl) ?_
  refine pr_call (va_runS (As := [.int (hh sc (nI q)), .int (nI ch)]) (rest := []) ⟨hx, hb, hml, hown, hts⟩ (c_Mo_h l dC dI cI (a := hh sc (nI q)) (b := (nI ch)) ) ⟨callB_of 2 hts (gd kw_411) rfl rfl rfl (hts _ kw_41) (hts _ kw_409) (by decide +kernel) ⟨Nat.le_of_ble_eq_true rfl, Nat.le_of_ble_eq_true rfl⟩, (hts _ kw_410)⟩ ⟨fun a U g mk q => by obtain ⟨q0, qP, qK⟩ := q; exact ⟨q0, qP, qK.call⟩, fun U hU hW => ⟨rfl, by rw [hU]; exact hP.sub [] rfl, hKN.warm hW⟩⟩ rfl rfl hl.1 rfl (lv_room (Nat.le_of_ble_eq_true rfl)) d_Mo_chain_13 ⟨Nat.zero_le _, Nat.zero_le _⟩) ?_
  refine lv_istore (lv' := [(4, .int (hh (hh sc (nI q)) (nI ch))), (0, .ref hm), (1, .int (nI q)), (2, .int (nI ch)), (3, .int (nI pl))]) hx hb d_Mo_chain_16 hl (by decide) rfl (fun ls hl => ?_)
  refine lv_iload hx hb d_Mo_chain_18 (lv_at hl 0 rfl) ?_
  refine lv_iload_n hx hb d_Mo_chain_20 rfl (lv_at hl 3 rfl) ?_
  refine lv_iconst (v := (nI 0)) hx hb d_Mo_chain_21 (by decide) ?_
  refine lv_iload_n hx hb d_Mo_chain_22 rfl (lv_at hl 4 rfl) ?_
  refine pr_call (va_runS (As := [.int (hh (hh sc (nI q)) (nI ch)), .int (nI ch), .int (nI 0), .int (nI pl)]) (rest := []) ⟨hx, hb, hml, hown, hts⟩ (c_Mo_along l dC dI cI (x := hh (hh sc (nI q)) (nI ch)) (ch := ch) (fr := 0) (to := pl) (hfr := (by first | omega | exact dgt_le _ _)) (hto := (by first | omega | exact dgt_le _ _))) ⟨callB_of 4 hts (gd kw_424) rfl rfl rfl (hts _ kw_41) (hts _ kw_422) (by decide +kernel) ⟨Nat.le_of_ble_eq_true rfl, Nat.le_of_ble_eq_true rfl⟩, (hts _ kw_423)⟩ ⟨fun a U g mk q => by obtain ⟨q0, qP, qK⟩ := q; exact ⟨q0, qP, qK.call⟩, fun U hU hW => ⟨rfl, by rw [hU]; exact hP.sub [] rfl, hKN.warm hW⟩⟩ rfl rfl hl.1 rfl (lv_room (Nat.le_of_ble_eq_true rfl)) d_Mo_chain_23 ⟨Nat.zero_le _, Nat.zero_le _⟩) ?_
  exact W.iret (v := (al ch (pl - 0) 0 (hh (hh sc (nI q)) (nI ch)))) hx hb hr (fun t ht hW => ⟨_, rfl, (by first | rfl | (simp only []; done) | (simp only []; rfl) | (simp []; done)), ht⟩) (fun q h => by cases h) d_Mo_chain_26
set_option maxHeartbeats 4000000 in
set_option maxRecDepth 100000 in
theorem c_Mo_leaf (l : Launch) (dC : Nat → ClassId) (dI : Nat → Nat → Nat) (cI : ClassId) (hm : Nat) (x : Int32) (sc : Int32) (hw : Nat) (cn : Nat) (fu : Nat) (lf : Int32) (dd : Bool) (dn : Int32) (rn : Int32) (tr : Bool) (lg : Nat) (he : Nat) (me : Int32) (hd : Nat) (hen : Nat) (hnd : Nat) (ed : Nat → Int32)  : Met l y_Mo_leaf w_Mo_leaf ({ frames := 1, cells := 0, slots := 0, locals := 22 }) (va_Pc [.ref hm, .int x] (fun U => va_P (dC, dI) classes [(hm, .inr (3, [.int sc, .ref hw, .int (nI cn), .int (nI fu), .int lf, .int (bI dd), .int dn, .int rn, .int (bI tr), .int (nI lg), .ref he, .int me, .ref hd, .ref hen, .ref hnd])), (hen, .inl (cI, 6, .inl ed))] U.heap ∧ KN dC dI cI U)) (qr (lf6 x ed)) 0 0 (fun _ => False) := by
  refine Met.ofW (cc := b_Mo_leaf) (maxL := 4) (ret := (some .int)) (by decide) rfl ?_
  intro p e s m args below meth c s₁ B hml hv
  obtain ⟨rfl, hP, hKN⟩ := hv
  have hK := hKN.1
  have hx := B.exec
  have hb := B.bytes
  have hr := B.returns
  have hts := fun (w : Cond) (h : w ∈ gt) => atoms_spec (ws := w_Mo_leaf) B.pre w (List.mem_cons_of_mem _ h)
  have hown : s.vm.findClass R_Mo = some m.cls := findClass_of_methodNamed B.named
  have hlocks := B.notSynchronized
  have hl := lv_entry ([.ref hm, .int x]) (n := 4) (Nat.le_of_ble_eq_true rfl)
  rw [lg_entry_eq]
  generalize (lg_sl ([.ref hm, .int x]) ++ List.replicate (4 - (lg_sl ([.ref hm, .int x])).length) Slot.unset).toArray = ls at hl ⊢
  have hl : lv_has ls 4 [(0, .ref hm), (1, .int x)] := hl
  refine lv_iload_n hx hb d_Mo_leaf_0 rfl (lv_at hl 1 rfl) ?_
  refine lv_istore_n (lv' := [(2, .int x), (0, .ref hm), (1, .int x)]) hx hb d_Mo_leaf_1 rfl hl (by decide) rfl (fun ls hl => ?_)
  refine lv_iconst (v := (nI 0)) hx hb d_Mo_leaf_2 (by decide) ?_
  refine lv_istore_n (lv' := [(3, .int (nI 0)), (2, .int x), (0, .ref hm), (1, .int x)]) hx hb d_Mo_leaf_3 rfl hl (by decide) rfl (fun ls hl => ?_)
  refine lv_iload_n hx hb d_Mo_leaf_4 rfl (lv_at hl 0 rfl) ?_
  refine lv_bipush (v := (nI 6)) hx hb d_Mo_leaf_5 (by decide) ?_
  refine nb_ge (tgt := 27) hx hb d_Mo_leaf_7 (by decide) (by decide) (by decide) (fun h_1 => ?_) (fun h_1 => ?_)
  · exact absurd h_1 (by decide)
  · refine lv_iload_n hx hb d_Mo_leaf_10 rfl (lv_at hl 1 rfl) ?_
    refine lv_aload_n hx hb d_Mo_leaf_11 rfl (lv_at hl 2 rfl) ?_
    refine va_get (D := (dC, dI)) (ci := 3) (v := .ref hen) (C := R_Mo) (T := F_Mo) (N := 15) hx hb hts in_Mo hown hK hP 0 rfl rfl 13 (by decide) (hts _ kw_452) (fun _ h9 => h9) rfl d_Mo_leaf_12 ?_
    refine lv_iload_n hx hb d_Mo_leaf_15 rfl (lv_at hl 0 rfl) ?_
    refine ar_ld (k := 0) hx hb hK hP 1 0 rfl rfl (by omega) (by first | decide | omega) d_Mo_leaf_16 ?_
    refine pr_call (va_runS (As := [.int x, .int (ed 0)]) (rest := []) ⟨hx, hb, hml, hown, hts⟩ (c_Mo_h l dC dI cI (a := x) (b := ed 0) ) ⟨callB_of 2 hts (gd kw_411) rfl rfl rfl (hts _ kw_41) (hts _ kw_409) (by decide +kernel) ⟨Nat.le_of_ble_eq_true rfl, Nat.le_of_ble_eq_true rfl⟩, (hts _ kw_410)⟩ ⟨fun a U g mk q => by obtain ⟨q0, qP, qK⟩ := q; exact ⟨q0, qP, qK.call⟩, fun U hU hW => ⟨rfl, by rw [hU]; exact hP.sub [] rfl, hKN.warm hW⟩⟩ rfl rfl hl.1 rfl (lv_room (Nat.le_of_ble_eq_true rfl)) d_Mo_leaf_17 ⟨Nat.zero_le _, Nat.zero_le _⟩) ?_
    refine lv_istore_n (lv' := [(2, .int (hh x (ed 0))), (3, .int (nI 0)), (0, .ref hm), (1, .int x)]) hx hb d_Mo_leaf_20 rfl hl (by decide) rfl (fun ls hl => ?_)
    refine lv_iinc (k := 1) (v := (nI 1)) (lv' := [(3, .int (nI 1)), (2, .int (hh x (ed 0))), (0, .ref hm), (1, .int x)]) hx hb d_Mo_leaf_21 hl rfl (by decide) (by decide) rfl (fun ls hl => ?_)
    refine lv_goto (tgt := 4) hx hb d_Mo_leaf_24 (by decide) ?_
    refine lv_iload_n hx hb d_Mo_leaf_4 rfl (lv_at hl 0 rfl) ?_
    refine lv_bipush (v := (nI 6)) hx hb d_Mo_leaf_5 (by decide) ?_
    refine nb_ge (tgt := 27) hx hb d_Mo_leaf_7 (by decide) (by decide) (by decide) (fun h_2 => ?_) (fun h_2 => ?_)
    · exact absurd h_2 (by decide)
    · refine lv_iload_n hx hb d_Mo_leaf_10 rfl (lv_at hl 1 rfl) ?_
      refine lv_aload_n hx hb d_Mo_leaf_11 rfl (lv_at hl 2 rfl) ?_
      refine va_get (D := (dC, dI)) (ci := 3) (v := .ref hen) (C := R_Mo) (T := F_Mo) (N := 15) hx hb hts in_Mo hown hK hP 0 rfl rfl 13 (by decide) (hts _ kw_452) (fun _ h9 => h9) rfl d_Mo_leaf_12 ?_
      refine lv_iload_n hx hb d_Mo_leaf_15 rfl (lv_at hl 0 rfl) ?_
      refine ar_ld (k := 1) hx hb hK hP 1 0 rfl rfl (by omega) (by first | decide | omega) d_Mo_leaf_16 ?_
      refine pr_call (va_runS (As := [.int (hh x (ed 0)), .int (ed 1)]) (rest := []) ⟨hx, hb, hml, hown, hts⟩ (c_Mo_h l dC dI cI (a := hh x (ed 0)) (b := ed 1) ) ⟨callB_of 2 hts (gd kw_411) rfl rfl rfl (hts _ kw_41) (hts _ kw_409) (by decide +kernel) ⟨Nat.le_of_ble_eq_true rfl, Nat.le_of_ble_eq_true rfl⟩, (hts _ kw_410)⟩ ⟨fun a U g mk q => by obtain ⟨q0, qP, qK⟩ := q; exact ⟨q0, qP, qK.call⟩, fun U hU hW => ⟨rfl, by rw [hU]; exact hP.sub [] rfl, hKN.warm hW⟩⟩ rfl rfl hl.1 rfl (lv_room (Nat.le_of_ble_eq_true rfl)) d_Mo_leaf_17 ⟨Nat.zero_le _, Nat.zero_le _⟩) ?_
      refine lv_istore_n (lv' := [(2, .int (hh (hh x (ed 0)) (ed 1))), (3, .int (nI 1)), (0, .ref hm), (1, .int x)]) hx hb d_Mo_leaf_20 rfl hl (by decide) rfl (fun ls hl => ?_)
      refine lv_iinc (k := 1) (v := (nI 2)) (lv' := [(3, .int (nI 2)), (2, .int (hh (hh x (ed 0)) (ed 1))), (0, .ref hm), (1, .int x)]) hx hb d_Mo_leaf_21 hl rfl (by decide) (by decide) rfl (fun ls hl => ?_)
      refine lv_goto (tgt := 4) hx hb d_Mo_leaf_24 (by decide) ?_
      refine lv_iload_n hx hb d_Mo_leaf_4 rfl (lv_at hl 0 rfl) ?_
      refine lv_bipush (v := (nI 6)) hx hb d_Mo_leaf_5 (by decide) ?_
      refine nb_ge (tgt := 27) hx hb d_Mo_leaf_7 (by decide) (by decide) (by decide) (fun h_3 => ?_) (fun h_3 => ?_)
      · exact absurd h_3 (by decide)
      · refine lv_iload_n hx hb d_Mo_leaf_10 rfl (lv_at hl 1 rfl) ?_
        refine lv_aload_n hx hb d_Mo_leaf_11 rfl (lv_at hl 2 rfl) ?_
        refine va_get (D := (dC, dI)) (ci := 3) (v := .ref hen) (C := R_Mo) (T := F_Mo) (N := 15) hx hb hts in_Mo hown hK hP 0 rfl rfl 13 (by decide) (hts _ kw_452) (fun _ h9 => h9) rfl d_Mo_leaf_12 ?_
        refine lv_iload_n hx hb d_Mo_leaf_15 rfl (lv_at hl 0 rfl) ?_
        refine ar_ld (k := 2) hx hb hK hP 1 0 rfl rfl (by omega) (by first | decide | omega) d_Mo_leaf_16 ?_
        refine pr_call (va_runS (As := [.int (hh (hh x (ed 0)) (ed 1)), .int (ed 2)]) (rest := []) ⟨hx, hb, hml, hown, hts⟩ (c_Mo_h l dC dI cI (a := hh (hh x (ed 0)) (ed 1)) (b := ed 2) ) ⟨callB_of 2 hts (gd kw_411) rfl rfl rfl (hts _ kw_41) (hts _ kw_409) (by decide +kernel) ⟨Nat.le_of_ble_eq_true rfl, Nat.le_of_ble_eq_true rfl⟩, (hts _ kw_410)⟩ ⟨fun a U g mk q => by obtain ⟨q0, qP, qK⟩ := q; exact ⟨q0, qP, qK.call⟩, fun U hU hW => ⟨rfl, by rw [hU]; exact hP.sub [] rfl, hKN.warm hW⟩⟩ rfl rfl hl.1 rfl (lv_room (Nat.le_of_ble_eq_true rfl)) d_Mo_leaf_17 ⟨Nat.zero_le _, Nat.zero_le _⟩) ?_
        refine lv_istore_n (lv' := [(2, .int (hh (hh (hh x (ed 0)) (ed 1)) (ed 2))), (3, .int (nI 2)), (0, .ref hm), (1, .int x)]) hx hb d_Mo_leaf_20 rfl hl (by decide) rfl (fun ls hl => ?_)
        refine lv_iinc (k := 1) (v := (nI 3)) (lv' := [(3, .int (nI 3)), (2, .int (hh (hh (hh x (ed 0)) (ed 1)) (ed 2))), (0, .ref hm), (1, .int x)]) hx hb d_Mo_leaf_21 hl rfl (by decide) (by decide) rfl (fun ls hl => ?_)
        refine lv_goto (tgt := 4) hx hb d_Mo_leaf_24 (by decide) ?_
        refine lv_iload_n hx hb d_Mo_leaf_4 rfl (lv_at hl 0 rfl) ?_
        refine lv_bipush (v := (nI 6)) hx hb d_Mo_leaf_5 (by decide) ?_
        refine nb_ge (tgt := 27) hx hb d_Mo_leaf_7 (by decide) (by decide) (by decide) (fun h_4 => ?_) (fun h_4 => ?_)
        · exact absurd h_4 (by decide)
        · refine lv_iload_n hx hb d_Mo_leaf_10 rfl (lv_at hl 1 rfl) ?_
          refine lv_aload_n hx hb d_Mo_leaf_11 rfl (lv_at hl 2 rfl) ?_
          refine va_get (D := (dC, dI)) (ci := 3) (v := .ref hen) (C := R_Mo) (T := F_Mo) (N := 15) hx hb hts in_Mo hown hK hP 0 rfl rfl 13 (by decide) (hts _ kw_452) (fun _ h9 => h9) rfl d_Mo_leaf_12 ?_
          refine lv_iload_n hx hb d_Mo_leaf_15 rfl (lv_at hl 0 rfl) ?_
          refine ar_ld (k := 3) hx hb hK hP 1 0 rfl rfl (by omega) (by first | decide | omega) d_Mo_leaf_16 ?_
          refine pr_call (va_runS (As := [.int (hh (hh (hh x (ed 0)) (ed 1)) (ed 2)), .int (ed 3)]) (rest := []) ⟨hx, hb, hml, hown, hts⟩ (c_Mo_h l dC dI cI (a := hh (hh (hh x (ed 0)) (ed 1)) (ed 2)) (b := ed 3) ) ⟨callB_of 2 hts (gd kw_411) rfl rfl rfl (hts _ kw_41) (hts _ kw_409) (by decide +kernel) ⟨Nat.le_of_ble_eq_true rfl, Nat.le_of_ble_eq_true rfl⟩, (hts _ kw_410)⟩ ⟨fun a U g mk q => by obtain ⟨q0, qP, qK⟩ := q; exact ⟨q0, qP, qK.call⟩, fun U hU hW => ⟨rfl, by rw [hU]; exact hP.sub [] rfl, hKN.warm hW⟩⟩ rfl rfl hl.1 rfl (lv_room (Nat.le_of_ble_eq_true rfl)) d_Mo_leaf_17 ⟨Nat.zero_le _, Nat.zero_le _⟩) ?_
          refine lv_istore_n (lv' := [(2, .int (hh (hh (hh (hh x (ed 0)) (ed 1)) (ed 2)) (ed 3))), (3, .int (nI 3)), (0, .ref hm), (1, .int x)]) hx hb d_Mo_leaf_20 rfl hl (by decide) rfl (fun ls hl => ?_)
          refine lv_iinc (k := 1) (v := (nI 4)) (lv' := [(3, .int (nI 4)), (2, .int (hh (hh (hh (hh x (ed 0)) (ed 1)) (ed 2)) (ed 3))), (0, .ref hm), (1, .int x)]) hx hb d_Mo_leaf_21 hl rfl (by decide) (by decide) rfl (fun ls hl => ?_)
          refine lv_goto (tgt := 4) hx hb d_Mo_leaf_24 (by decide) ?_
          refine lv_iload_n hx hb d_Mo_leaf_4 rfl (lv_at hl 0 rfl) ?_
          refine lv_bipush (v := (nI 6)) hx hb d_Mo_leaf_5 (by decide) ?_
          refine nb_ge (tgt := 27) hx hb d_Mo_leaf_7 (by decide) (by decide) (by decide) (fun h_5 => ?_) (fun h_5 => ?_)
          · exact absurd h_5 (by decide)
          · refine lv_iload_n hx hb d_Mo_leaf_10 rfl (lv_at hl 1 rfl) ?_
            refine lv_aload_n hx hb d_Mo_leaf_11 rfl (lv_at hl 2 rfl) ?_
            refine va_get (D := (dC, dI)) (ci := 3) (v := .ref hen) (C := R_Mo) (T := F_Mo) (N := 15) hx hb hts in_Mo hown hK hP 0 rfl rfl 13 (by decide) (hts _ kw_452) (fun _ h9 => h9) rfl d_Mo_leaf_12 ?_
            refine lv_iload_n hx hb d_Mo_leaf_15 rfl (lv_at hl 0 rfl) ?_
            refine ar_ld (k := 4) hx hb hK hP 1 0 rfl rfl (by omega) (by first | decide | omega) d_Mo_leaf_16 ?_
            refine pr_call (va_runS (As := [.int (hh (hh (hh (hh x (ed 0)) (ed 1)) (ed 2)) (ed 3)), .int (ed 4)]) (rest := []) ⟨hx, hb, hml, hown, hts⟩ (c_Mo_h l dC dI cI (a := hh (hh (hh (hh x (ed 0)) (ed 1)) (ed 2)) (ed 3)) (b := ed 4) ) ⟨callB_of 2 hts (gd kw_411) rfl rfl rfl (hts _ kw_41) (hts _ kw_409) (by decide +kernel) ⟨Nat.le_of_ble_eq_true rfl, Nat.le_of_ble_eq_true rfl⟩, (hts _ kw_410)⟩ ⟨fun a U g mk q => by obtain ⟨q0, qP, qK⟩ := q; exact ⟨q0, qP, qK.call⟩, fun U hU hW => ⟨rfl, by rw [hU]; exact hP.sub [] rfl, hKN.warm hW⟩⟩ rfl rfl hl.1 rfl (lv_room (Nat.le_of_ble_eq_true rfl)) d_Mo_leaf_17 ⟨Nat.zero_le _, Nat.zero_le _⟩) ?_
            refine lv_istore_n (lv' := [(2, .int (hh (hh (hh (hh (hh x (ed 0)) (ed 1)) (ed 2)) (ed 3)) (ed 4))), (3, .int (nI 4)), (0, .ref hm), (1, .int x)]) hx hb d_Mo_leaf_20 rfl hl (by decide) rfl (fun ls hl => ?_)
            refine lv_iinc (k := 1) (v := (nI 5)) (lv' := [(3, .int (nI 5)), (2, .int (hh (hh (hh (hh (hh x (ed 0)) (ed 1)) (ed 2)) (ed 3)) (ed 4))), (0, .ref hm), (1, .int x)]) hx hb d_Mo_leaf_21 hl rfl (by decide) (by decide) rfl (fun ls hl => ?_)
            refine lv_goto (tgt := 4) hx hb d_Mo_leaf_24 (by decide) ?_
            refine lv_iload_n hx hb d_Mo_leaf_4 rfl (lv_at hl 0 rfl) ?_
            refine lv_bipush (v := (nI 6)) hx hb d_Mo_leaf_5 (by decide) ?_
            refine nb_ge (tgt := 27) hx hb d_Mo_leaf_7 (by decide) (by decide) (by decide) (fun h_6 => ?_) (fun h_6 => ?_)
            · exact absurd h_6 (by decide)
            · refine lv_iload_n hx hb d_Mo_leaf_10 rfl (lv_at hl 1 rfl) ?_
              refine lv_aload_n hx hb d_Mo_leaf_11 rfl (lv_at hl 2 rfl) ?_
              refine va_get (D := (dC, dI)) (ci := 3) (v := .ref hen) (C := R_Mo) (T := F_Mo) (N := 15) hx hb hts in_Mo hown hK hP 0 rfl rfl 13 (by decide) (hts _ kw_452) (fun _ h9 => h9) rfl d_Mo_leaf_12 ?_
              refine lv_iload_n hx hb d_Mo_leaf_15 rfl (lv_at hl 0 rfl) ?_
              refine ar_ld (k := 5) hx hb hK hP 1 0 rfl rfl (by omega) (by first | decide | omega) d_Mo_leaf_16 ?_
              refine pr_call (va_runS (As := [.int (hh (hh (hh (hh (hh x (ed 0)) (ed 1)) (ed 2)) (ed 3)) (ed 4)), .int (ed 5)]) (rest := []) ⟨hx, hb, hml, hown, hts⟩ (c_Mo_h l dC dI cI (a := hh (hh (hh (hh (hh x (ed 0)) (ed 1)) (ed 2)) (ed 3)) (ed 4)) (b := ed 5) ) ⟨callB_of 2 hts (gd kw_411) rfl rfl rfl (hts _ kw_41) (hts _ kw_409) (by decide +kernel) ⟨Nat.le_of_ble_eq_true rfl, Nat.le_of_ble_eq_true rfl⟩, (hts _ kw_410)⟩ ⟨fun a U g mk q => by obtain ⟨q0, qP, qK⟩ := q; exact ⟨q0, qP, qK.call⟩, fun U hU hW => ⟨rfl, by rw [hU]; exact hP.sub [] rfl, hKN.warm hW⟩⟩ rfl rfl hl.1 rfl (lv_room (Nat.le_of_ble_eq_true rfl)) d_Mo_leaf_17 ⟨Nat.zero_le _, Nat.zero_le _⟩) ?_
              refine lv_istore_n (lv' := [(2, .int (hh (hh (hh (hh (hh (hh x (ed 0)) (ed 1)) (ed 2)) (ed 3)) (ed 4)) (ed 5))), (3, .int (nI 5)), (0, .ref hm), (1, .int x)]) hx hb d_Mo_leaf_20 rfl hl (by decide) rfl (fun ls hl => ?_)
              refine lv_iinc (k := 1) (v := (nI 6)) (lv' := [(3, .int (nI 6)), (2, .int (hh (hh (hh (hh (hh (hh x (ed 0)) (ed 1)) (ed 2)) (ed 3)) (ed 4)) (ed 5))), (0, .ref hm), (1, .int x)]) hx hb d_Mo_leaf_21 hl rfl (by decide) (by decide) rfl (fun ls hl => ?_)
              refine lv_goto (tgt := 4) hx hb d_Mo_leaf_24 (by decide) ?_
              refine lv_iload_n hx hb d_Mo_leaf_4 rfl (lv_at hl 0 rfl) ?_
              refine lv_bipush (v := (nI 6)) hx hb d_Mo_leaf_5 (by decide) ?_
              refine nb_ge (tgt := 27) hx hb d_Mo_leaf_7 (by decide) (by decide) (by decide) (fun h_7 => ?_) (fun h_7 => ?_)
              · refine lv_iload_n hx hb d_Mo_leaf_27 rfl (lv_at hl 1 rfl) ?_
                exact W.iret (v := (hh (hh (hh (hh (hh (hh x (ed 0)) (ed 1)) (ed 2)) (ed 3)) (ed 4)) (ed 5))) hx hb hr (fun t ht hW => ⟨_, rfl, (by first | rfl | (simp only []; done) | (simp only []; rfl) | (simp []; done)), ht⟩) (fun q h => by cases h) d_Mo_leaf_28
              · exact absurd h_7 (by decide)
set_option maxHeartbeats 4000000 in
set_option maxRecDepth 100000 in
theorem c_Mo_join (l : Launch) (dC : Nat → ClassId) (dI : Nat → Nat → Nat) (cI : ClassId) (a : Int32) (b : Int32) (k : Nat)  : Met l y_Mo_join w_Mo_join ({ frames := 1, cells := 0, slots := 0, locals := 22 }) (va_Pc [.int a, .int b, .int (nI k)] (fun U => va_P (dC, dI) classes [] U.heap ∧ KN dC dI cI U)) (qr (ab a b k)) 0 0 (fun _ => False) := by
  refine Met.ofW (cc := b_Mo_join) (maxL := 4) (ret := (some .int)) (by decide) rfl ?_
  intro p e s m args below meth c s₁ B hml hv
  obtain ⟨rfl, hP, hKN⟩ := hv
  have hK := hKN.1
  have hx := B.exec
  have hb := B.bytes
  have hr := B.returns
  have hts := fun (w : Cond) (h : w ∈ gt) => atoms_spec (ws := w_Mo_join) B.pre w (List.mem_cons_of_mem _ h)
  have hown : s.vm.findClass R_Mo = some m.cls := findClass_of_methodNamed B.named
  have hlocks := B.notSynchronized
  have hl := lv_entry ([.int a, .int b, .int (nI k)]) (n := 4) (Nat.le_of_ble_eq_true rfl)
  rw [lg_entry_eq]
  generalize (lg_sl ([.int a, .int b, .int (nI k)]) ++ List.replicate (4 - (lg_sl ([.int a, .int b, .int (nI k)])).length) Slot.unset).toArray = ls at hl ⊢
  have hl : lv_has ls 4 [(0, .int a), (1, .int b), (2, .int (nI k))] := hl
  refine lv_iload_n hx hb d_Mo_join_0 rfl (lv_at hl 0 rfl) ?_
  refine lv_iload_n hx hb d_Mo_join_1 rfl (lv_at hl 1 rfl) ?_
  refine pr_call (va_runS (As := [.int a, .int b]) (rest := []) ⟨hx, hb, hml, hown, hts⟩ (c_Mo_h l dC dI cI (a := a) (b := b) ) ⟨callB_of 2 hts (gd kw_411) rfl rfl rfl (hts _ kw_41) (hts _ kw_409) (by decide +kernel) ⟨Nat.le_of_ble_eq_true rfl, Nat.le_of_ble_eq_true rfl⟩, (hts _ kw_410)⟩ ⟨fun a U g mk q => by obtain ⟨q0, qP, qK⟩ := q; exact ⟨q0, qP, qK.call⟩, fun U hU hW => ⟨rfl, by rw [hU]; exact hP.sub [] rfl, hKN.warm hW⟩⟩ rfl rfl hl.1 rfl (lv_room (Nat.le_of_ble_eq_true rfl)) d_Mo_join_2 ⟨Nat.zero_le _, Nat.zero_le _⟩) ?_
  refine lv_istore_n (lv' := [(3, .int (hh a b)), (0, .int a), (1, .int b), (2, .int (nI k))]) hx hb d_Mo_join_5 rfl hl (by decide) rfl (fun ls hl => ?_)
  refine lv_iload_n hx hb d_Mo_join_6 rfl (lv_at hl 0 rfl) ?_
  refine lv_iload_n hx hb d_Mo_join_7 rfl (lv_at hl 3 rfl) ?_
  refine pr_call (va_runS (As := [.int (hh a b), .int (nI k)]) (rest := []) ⟨hx, hb, hml, hown, hts⟩ (c_Mo_h l dC dI cI (a := hh a b) (b := (nI k)) ) ⟨callB_of 2 hts (gd kw_411) rfl rfl rfl (hts _ kw_41) (hts _ kw_409) (by decide +kernel) ⟨Nat.le_of_ble_eq_true rfl, Nat.le_of_ble_eq_true rfl⟩, (hts _ kw_410)⟩ ⟨fun a U g mk q => by obtain ⟨q0, qP, qK⟩ := q; exact ⟨q0, qP, qK.call⟩, fun U hU hW => ⟨rfl, by rw [hU]; exact hP.sub [] rfl, hKN.warm hW⟩⟩ rfl rfl hl.1 rfl (lv_room (Nat.le_of_ble_eq_true rfl)) d_Mo_join_8 ⟨Nat.zero_le _, Nat.zero_le _⟩) ?_
  exact W.iret (v := (hh (hh a b) (nI k))) hx hb hr (fun t ht hW => ⟨_, rfl, (by first | rfl | (simp only []; done) | (simp only []; rfl) | (simp []; done)), ht⟩) (fun q h => by cases h) d_Mo_join_11
set_option maxHeartbeats 4000000 in
set_option maxRecDepth 100000 in
theorem c_Mo_tree (l : Launch) (dC : Nat → ClassId) (dI : Nat → Nat → Nat) (cI : ClassId) (hm : Nat) (sc : Int32) (hw : Nat) (cn : Nat) (fu : Nat) (lf : Int32) (dd : Bool) (dn : Int32) (rn : Int32) (tr : Bool) (lg : Nat) (he : Nat) (me : Int32) (hd : Nat) (hen : Nat) (hnd : Nat) (ed : Nat → Int32) (nd : Nat → Int32)  (sz : Nat) : Met l y_Mo_tree w_Mo_tree ({ frames := 3, cells := 0, slots := 0, locals := 71 }) (va_Pc [.ref hm] (fun U => U.heap.size = sz ∧ va_P (dC, dI) classes [(hm, .inr (3, [.int sc, .ref hw, .int (nI cn), .int (nI fu), .int lf, .int (bI dd), .int dn, .int rn, .int (bI tr), .int (nI lg), .ref he, .int me, .ref hd, .ref hen, .ref hnd])), (hen, .inl (cI, 6, .inl ed)), (hnd, .inl (cI, 16, .inl nd))] U.heap ∧ KN dC dI cI U ∧ va_D (fun _ => True) [(hm, .inr (3, [.int sc, .ref hw, .int (nI cn), .int (nI fu), .int lf, .int (bI dd), .int dn, .int rn, .int (bI tr), .int (nI lg), .ref he, .int me, .ref hd, .ref hen, .ref hnd])), (hen, .inl (cI, 6, .inl ed)), (hnd, .inl (cI, 16, .inl nd))])) (va_Qv (fun u : (Nat → Int32) × (Nat → Int32) => tree sc ed nd = u) (fun (u : (Nat → Int32) × (Nat → Int32)) t => va_P (dC, dI) classes [(hm, .inr (3, [.int sc, .ref hw, .int (nI cn), .int (nI fu), .int lf, .int (bI dd), .int dn, .int rn, .int (bI tr), .int (nI lg), .ref he, .int me, .ref hd, .ref hen, .ref hnd])), (hen, .inl (cI, 6, .inl u.1)), (hnd, .inl (cI, 16, .inl u.2))] t.heap ∧ va_D (va_A [(hm, .inr (3, [.int sc, .ref hw, .int (nI cn), .int (nI fu), .int lf, .int (bI dd), .int dn, .int rn, .int (bI tr), .int (nI lg), .ref he, .int me, .ref hd, .ref hen, .ref hnd])), (hen, .inl (cI, 6, .inl ed)), (hnd, .inl (cI, 16, .inl nd))] sz) [(hm, .inr (3, [.int sc, .ref hw, .int (nI cn), .int (nI fu), .int lf, .int (bI dd), .int dn, .int rn, .int (bI tr), .int (nI lg), .ref he, .int me, .ref hd, .ref hen, .ref hnd])), (hen, .inl (cI, 6, .inl u.1)), (hnd, .inl (cI, 16, .inl u.2))]) (va_A [(hm, .inr (3, [.int sc, .ref hw, .int (nI cn), .int (nI fu), .int lf, .int (bI dd), .int dn, .int rn, .int (bI tr), .int (nI lg), .ref he, .int me, .ref hd, .ref hen, .ref hnd])), (hen, .inl (cI, 6, .inl ed)), (hnd, .inl (cI, 16, .inl nd))] sz)) 0 0 (va_A [(hm, .inr (3, [.int sc, .ref hw, .int (nI cn), .int (nI fu), .int lf, .int (bI dd), .int dn, .int rn, .int (bI tr), .int (nI lg), .ref he, .int me, .ref hd, .ref hen, .ref hnd])), (hen, .inl (cI, 6, .inl ed)), (hnd, .inl (cI, 16, .inl nd))] sz) := by
  refine Met.ofW (cc := b_Mo_tree) (maxL := 3) (ret := none) (by decide) rfl ?_
  intro p e s m args below meth c s₁ B hml hv
  obtain ⟨rfl, hsz, hP, hKN, hD0⟩ := hv
  have hK := hKN.1
  have hx := B.exec
  have hb := B.bytes
  have hr := B.returns
  have hts := fun (w : Cond) (h : w ∈ gt) => atoms_spec (ws := w_Mo_tree) B.pre w (List.mem_cons_of_mem _ h)
  have hown : s.vm.findClass R_Mo = some m.cls := findClass_of_methodNamed B.named
  have hlocks := B.notSynchronized
  subst hsz
  have hD := hD0.self (sz := s.heap.size)
  generalize hAe : va_A [(hm, .inr (3, [.int sc, .ref hw, .int (nI cn), .int (nI fu), .int lf, .int (bI dd), .int dn, .int rn, .int (bI tr), .int (nI lg), .ref he, .int me, .ref hd, .ref hen, .ref hnd])), (hen, .inl (cI, 6, .inl ed)), (hnd, .inl (cI, 16, .inl nd))] s.heap.size = A at hD ⊢
  have hA : ∀ q : Nat, s.heap.size ≤ q → A q := fun q h => by rw [← hAe]; exact Or.inr h
  have hS : va_S A s.heap s.heap [] := va_S.rf
  have hP : va_P (dC, dI) classes [(hm, .inr (3, [.int sc, .ref hw, .int (nI cn), .int (nI fu), .int lf, .int (bI dd), .int dn, .int rn, .int (bI tr), .int (nI lg), .ref he, .int me, .ref hd, .ref hen, .ref hnd])), (hen, .inl (cI, 6, .inl ed)), (hnd, .inl (cI, 16, .inl nd))] s.heap := hP
  clear hAe hD0
  have hl := lv_entry ([.ref hm]) (n := 3) (Nat.le_of_ble_eq_true rfl)
  rw [lg_entry_eq]
  generalize (lg_sl ([.ref hm]) ++ List.replicate (3 - (lg_sl ([.ref hm])).length) Slot.unset).toArray = ls at hl ⊢
  have hl : lv_has ls 3 [(0, .ref hm)] := hl
  refine lv_iconst (v := (nI 0)) hx hb d_Mo_tree_0 (by decide) ?_
  refine lv_istore_n (lv' := [(1, .int (nI 0)), (0, .ref hm)]) hx hb d_Mo_tree_1 rfl hl (by decide) rfl (fun ls hl => ?_)
  have hl := lv_sub (l' := [(1, .int (nI 0)), (0, .ref hm)]) hl [0, 1] rfl
  refine wloop (ι := Nat × (Nat → Int32) × (Nat → Int32)) (fun i => 8 - (i.1)) (fun i ls H locs => ((i.1) ≤ 8 ∧ tL sc 8 0 (ed, nd) = tL sc (8 - (i.1)) (i.1) ((i.2.1), (i.2.2))) ∧ lv_has ls 3 [(1, .int (nI (i.1))), (0, .ref hm)] ∧ va_P (dC, dI) classes [(hm, .inr (3, [.int sc, .ref hw, .int (nI cn), .int (nI fu), .int lf, .int (bI dd), .int dn, .int rn, .int (bI tr), .int (nI lg), .ref he, .int me, .ref hd, .ref hen, .ref hnd])), (hen, .inl (cI, 6, .inl (i.2.1))), (hnd, .inl (cI, 16, .inl (i.2.2)))] H ∧ va_D A [(hm, .inr (3, [.int sc, .ref hw, .int (nI cn), .int (nI fu), .int lf, .int (bI dd), .int dn, .int rn, .int (bI tr), .int (nI lg), .ref he, .int me, .ref hd, .ref hen, .ref hnd])), (hen, .inl (cI, 6, .inl (i.2.1))), (hnd, .inl (cI, 16, .inl (i.2.2)))] ∧ va_S A s.heap H locs) ?_ (0, ed, nd) ⟨⟨by omega, rfl⟩, hl, hP, hD, hS⟩
  clear hl hP hD hS
  rintro ⟨q, ed2, nd2⟩ ls H locs ⟨hinv, hl, hP, hD, hS⟩ ih
  dsimp only at hinv hl ih hP hD
  refine lv_iload_n hx hb d_Mo_tree_2 rfl (lv_at hl 0 rfl) ?_
  refine lv_bipush (v := (nI 8)) hx hb d_Mo_tree_3 (by decide) ?_
  refine nb_ge (tgt := 56) hx hb d_Mo_tree_5 (by decide) (by first | omega | exact Nat.lt_of_lt_of_le (stt_lt _ _) (by decide)) (by first | omega | exact Nat.lt_of_lt_of_le (stt_lt _ _) (by decide)) (fun h_1 => ?_) (fun h_1 => ?_)
  · refine lv_bipush (v := (nI 7)) hx hb d_Mo_tree_56 (by decide) ?_
    refine lv_istore_n (lv' := [(1, .int (nI 7)), (0, .ref hm)]) hx hb d_Mo_tree_58 rfl hl (by decide) rfl (fun ls hl => ?_)
    refine lv_iload_n hx hb d_Mo_tree_59 rfl (lv_at hl 0 rfl) ?_
    refine lv_iconst (v := (nI 1)) hx hb d_Mo_tree_60 (by decide) ?_
    refine nb_lt (tgt := 98) hx hb d_Mo_tree_61 (by decide) (by decide) (by decide) (fun h_2 => ?_) (fun h_2 => ?_)
    · exact absurd h_2 (by decide)
    · refine lv_aload_n hx hb d_Mo_tree_64 rfl (lv_at hl 1 rfl) ?_
      refine va_get (D := (dC, dI)) (ci := 3) (v := .ref hnd) (C := R_Mo) (T := F_Mo) (N := 15) hx hb hts in_Mo hown hK hP 0 rfl rfl 14 (by decide) (hts _ kw_453) (fun _ h9 => h9) rfl d_Mo_tree_65 ?_
      refine lv_iload_n hx hb d_Mo_tree_68 rfl (lv_at hl 0 rfl) ?_
      refine lv_aload_n hx hb d_Mo_tree_69 rfl (lv_at hl 1 rfl) ?_
      refine va_get (D := (dC, dI)) (ci := 3) (v := .ref hnd) (C := R_Mo) (T := F_Mo) (N := 15) hx hb hts in_Mo hown hK hP 0 rfl rfl 14 (by decide) (hts _ kw_453) (fun _ h9 => h9) rfl d_Mo_tree_70 ?_
      refine lv_iconst (v := (nI 2)) hx hb d_Mo_tree_73 (by decide) ?_
      refine lv_iload_n hx hb d_Mo_tree_74 rfl (lv_at hl 0 rfl) ?_
      refine lv_imul hx hb d_Mo_tree_75 ?_
      refine tp (y := (nI 14)) (by decide) ?_
      refine ar_ld (k := 14) hx hb hK hP 2 0 rfl rfl (by omega) (by first | decide | omega) d_Mo_tree_76 ?_
      refine lv_aload_n hx hb d_Mo_tree_77 rfl (lv_at hl 1 rfl) ?_
      refine va_get (D := (dC, dI)) (ci := 3) (v := .ref hnd) (C := R_Mo) (T := F_Mo) (N := 15) hx hb hts in_Mo hown hK hP 0 rfl rfl 14 (by decide) (hts _ kw_453) (fun _ h9 => h9) rfl d_Mo_tree_78 ?_
      refine lv_iconst (v := (nI 2)) hx hb d_Mo_tree_81 (by decide) ?_
      refine lv_iload_n hx hb d_Mo_tree_82 rfl (lv_at hl 0 rfl) ?_
      refine lv_imul hx hb d_Mo_tree_83 ?_
      refine tp (y := (nI 14)) (by decide) ?_
      refine lv_iconst (v := (nI 1)) hx hb d_Mo_tree_84 (by decide) ?_
      refine lv_iadd hx hb d_Mo_tree_85 ?_
      refine tp (y := (nI 15)) (by decide) ?_
      refine ar_ld (k := 15) hx hb hK hP 2 0 rfl rfl (by omega) (by first | decide | omega) d_Mo_tree_86 ?_
      refine lv_iload_n hx hb d_Mo_tree_87 rfl (lv_at hl 0 rfl) ?_
      refine pr_call (va_runS (As := [.int (nd2 14), .int (nd2 15), .int (nI 7)]) (rest := [.int (nI 7), .ref hnd]) ⟨hx, hb, hml, hown, hts⟩ (c_Mo_join l dC dI cI (a := nd2 14) (b := nd2 15) (k := 7) ) ⟨callB_of 3 hts (gd kw_435) rfl rfl rfl (hts _ kw_41) (hts _ kw_433) (by decide +kernel) ⟨Nat.le_of_ble_eq_true rfl, Nat.le_of_ble_eq_true rfl⟩, (hts _ kw_434)⟩ ⟨fun a U g mk q => by obtain ⟨q0, qP, qK⟩ := q; exact ⟨q0, qP, qK.call⟩, fun U hU hW => ⟨rfl, by rw [hU]; exact hP.sub [] rfl, hKN.warm hW⟩⟩ rfl rfl hl.1 rfl (lv_room (Nat.le_of_ble_eq_true rfl)) d_Mo_tree_88 ⟨Nat.zero_le _, Nat.zero_le _⟩) ?_
      refine ar_st (k := 7) hx hb hK hP hD hS 2 0 rfl rfl (by omega) (by first | decide | omega) d_Mo_tree_91 (fun H locs hP hD hS => ?_)
      obtain ⟨f_3, e_3⟩ : ∃ z : Nat → Int32, z = tn nd2 7 := ⟨_, rfl⟩
      have hP : va_P (dC, dI) classes [(hm, .inr (3, [.int sc, .ref hw, .int (nI cn), .int (nI fu), .int lf, .int (bI dd), .int dn, .int rn, .int (bI tr), .int (nI lg), .ref he, .int me, .ref hd, .ref hen, .ref hnd])), (hen, .inl (cI, 6, .inl ed2)), (hnd, .inl (cI, 16, .inl f_3))] H := by rw [e_3]; exact hP
      have hD : va_D A [(hm, .inr (3, [.int sc, .ref hw, .int (nI cn), .int (nI fu), .int lf, .int (bI dd), .int dn, .int rn, .int (bI tr), .int (nI lg), .ref he, .int me, .ref hd, .ref hen, .ref hnd])), (hen, .inl (cI, 6, .inl ed2)), (hnd, .inl (cI, 16, .inl f_3))] := by rw [e_3]; exact hD
      refine lv_iinc (k := 0) (v := (nI 6)) (lv' := [(1, .int (nI 6)), (0, .ref hm)]) hx hb d_Mo_tree_92 hl rfl (by decide) (by decide) rfl (fun ls hl => ?_)
      refine lv_goto (tgt := 59) hx hb d_Mo_tree_95 (by decide) ?_
      refine lv_iload_n hx hb d_Mo_tree_59 rfl (lv_at hl 0 rfl) ?_
      refine lv_iconst (v := (nI 1)) hx hb d_Mo_tree_60 (by decide) ?_
      refine nb_lt (tgt := 98) hx hb d_Mo_tree_61 (by decide) (by decide) (by decide) (fun h_4 => ?_) (fun h_4 => ?_)
      · exact absurd h_4 (by decide)
      · refine lv_aload_n hx hb d_Mo_tree_64 rfl (lv_at hl 1 rfl) ?_
        refine va_get (D := (dC, dI)) (ci := 3) (v := .ref hnd) (C := R_Mo) (T := F_Mo) (N := 15) hx hb hts in_Mo hown hK hP 0 rfl rfl 14 (by decide) (hts _ kw_453) (fun _ h9 => h9) rfl d_Mo_tree_65 ?_
        refine lv_iload_n hx hb d_Mo_tree_68 rfl (lv_at hl 0 rfl) ?_
        refine lv_aload_n hx hb d_Mo_tree_69 rfl (lv_at hl 1 rfl) ?_
        refine va_get (D := (dC, dI)) (ci := 3) (v := .ref hnd) (C := R_Mo) (T := F_Mo) (N := 15) hx hb hts in_Mo hown hK hP 0 rfl rfl 14 (by decide) (hts _ kw_453) (fun _ h9 => h9) rfl d_Mo_tree_70 ?_
        refine lv_iconst (v := (nI 2)) hx hb d_Mo_tree_73 (by decide) ?_
        refine lv_iload_n hx hb d_Mo_tree_74 rfl (lv_at hl 0 rfl) ?_
        refine lv_imul hx hb d_Mo_tree_75 ?_
        refine tp (y := (nI 12)) (by decide) ?_
        refine ar_ld (k := 12) hx hb hK hP 2 0 rfl rfl (by omega) (by first | decide | omega) d_Mo_tree_76 ?_
        refine lv_aload_n hx hb d_Mo_tree_77 rfl (lv_at hl 1 rfl) ?_
        refine va_get (D := (dC, dI)) (ci := 3) (v := .ref hnd) (C := R_Mo) (T := F_Mo) (N := 15) hx hb hts in_Mo hown hK hP 0 rfl rfl 14 (by decide) (hts _ kw_453) (fun _ h9 => h9) rfl d_Mo_tree_78 ?_
        refine lv_iconst (v := (nI 2)) hx hb d_Mo_tree_81 (by decide) ?_
        refine lv_iload_n hx hb d_Mo_tree_82 rfl (lv_at hl 0 rfl) ?_
        refine lv_imul hx hb d_Mo_tree_83 ?_
        refine tp (y := (nI 12)) (by decide) ?_
        refine lv_iconst (v := (nI 1)) hx hb d_Mo_tree_84 (by decide) ?_
        refine lv_iadd hx hb d_Mo_tree_85 ?_
        refine tp (y := (nI 13)) (by decide) ?_
        refine ar_ld (k := 13) hx hb hK hP 2 0 rfl rfl (by omega) (by first | decide | omega) d_Mo_tree_86 ?_
        refine lv_iload_n hx hb d_Mo_tree_87 rfl (lv_at hl 0 rfl) ?_
        refine pr_call (va_runS (As := [.int (f_3 12), .int (f_3 13), .int (nI 6)]) (rest := [.int (nI 6), .ref hnd]) ⟨hx, hb, hml, hown, hts⟩ (c_Mo_join l dC dI cI (a := f_3 12) (b := f_3 13) (k := 6) ) ⟨callB_of 3 hts (gd kw_435) rfl rfl rfl (hts _ kw_41) (hts _ kw_433) (by decide +kernel) ⟨Nat.le_of_ble_eq_true rfl, Nat.le_of_ble_eq_true rfl⟩, (hts _ kw_434)⟩ ⟨fun a U g mk q => by obtain ⟨q0, qP, qK⟩ := q; exact ⟨q0, qP, qK.call⟩, fun U hU hW => ⟨rfl, by rw [hU]; exact hP.sub [] rfl, hKN.warm hW⟩⟩ rfl rfl hl.1 rfl (lv_room (Nat.le_of_ble_eq_true rfl)) d_Mo_tree_88 ⟨Nat.zero_le _, Nat.zero_le _⟩) ?_
        refine ar_st (k := 6) hx hb hK hP hD hS 2 0 rfl rfl (by omega) (by first | decide | omega) d_Mo_tree_91 (fun H locs hP hD hS => ?_)
        obtain ⟨f_5, e_5⟩ : ∃ z : Nat → Int32, z = tn f_3 6 := ⟨_, rfl⟩
        have hP : va_P (dC, dI) classes [(hm, .inr (3, [.int sc, .ref hw, .int (nI cn), .int (nI fu), .int lf, .int (bI dd), .int dn, .int rn, .int (bI tr), .int (nI lg), .ref he, .int me, .ref hd, .ref hen, .ref hnd])), (hen, .inl (cI, 6, .inl ed2)), (hnd, .inl (cI, 16, .inl f_5))] H := by rw [e_5]; exact hP
        have hD : va_D A [(hm, .inr (3, [.int sc, .ref hw, .int (nI cn), .int (nI fu), .int lf, .int (bI dd), .int dn, .int rn, .int (bI tr), .int (nI lg), .ref he, .int me, .ref hd, .ref hen, .ref hnd])), (hen, .inl (cI, 6, .inl ed2)), (hnd, .inl (cI, 16, .inl f_5))] := by rw [e_5]; exact hD
        refine lv_iinc (k := 0) (v := (nI 5)) (lv' := [(1, .int (nI 5)), (0, .ref hm)]) hx hb d_Mo_tree_92 hl rfl (by decide) (by decide) rfl (fun ls hl => ?_)
        refine lv_goto (tgt := 59) hx hb d_Mo_tree_95 (by decide) ?_
        refine lv_iload_n hx hb d_Mo_tree_59 rfl (lv_at hl 0 rfl) ?_
        refine lv_iconst (v := (nI 1)) hx hb d_Mo_tree_60 (by decide) ?_
        refine nb_lt (tgt := 98) hx hb d_Mo_tree_61 (by decide) (by decide) (by decide) (fun h_6 => ?_) (fun h_6 => ?_)
        · exact absurd h_6 (by decide)
        · refine lv_aload_n hx hb d_Mo_tree_64 rfl (lv_at hl 1 rfl) ?_
          refine va_get (D := (dC, dI)) (ci := 3) (v := .ref hnd) (C := R_Mo) (T := F_Mo) (N := 15) hx hb hts in_Mo hown hK hP 0 rfl rfl 14 (by decide) (hts _ kw_453) (fun _ h9 => h9) rfl d_Mo_tree_65 ?_
          refine lv_iload_n hx hb d_Mo_tree_68 rfl (lv_at hl 0 rfl) ?_
          refine lv_aload_n hx hb d_Mo_tree_69 rfl (lv_at hl 1 rfl) ?_
          refine va_get (D := (dC, dI)) (ci := 3) (v := .ref hnd) (C := R_Mo) (T := F_Mo) (N := 15) hx hb hts in_Mo hown hK hP 0 rfl rfl 14 (by decide) (hts _ kw_453) (fun _ h9 => h9) rfl d_Mo_tree_70 ?_
          refine lv_iconst (v := (nI 2)) hx hb d_Mo_tree_73 (by decide) ?_
          refine lv_iload_n hx hb d_Mo_tree_74 rfl (lv_at hl 0 rfl) ?_
          refine lv_imul hx hb d_Mo_tree_75 ?_
          refine tp (y := (nI 10)) (by decide) ?_
          refine ar_ld (k := 10) hx hb hK hP 2 0 rfl rfl (by omega) (by first | decide | omega) d_Mo_tree_76 ?_
          refine lv_aload_n hx hb d_Mo_tree_77 rfl (lv_at hl 1 rfl) ?_
          refine va_get (D := (dC, dI)) (ci := 3) (v := .ref hnd) (C := R_Mo) (T := F_Mo) (N := 15) hx hb hts in_Mo hown hK hP 0 rfl rfl 14 (by decide) (hts _ kw_453) (fun _ h9 => h9) rfl d_Mo_tree_78 ?_
          refine lv_iconst (v := (nI 2)) hx hb d_Mo_tree_81 (by decide) ?_
          refine lv_iload_n hx hb d_Mo_tree_82 rfl (lv_at hl 0 rfl) ?_
          refine lv_imul hx hb d_Mo_tree_83 ?_
          refine tp (y := (nI 10)) (by decide) ?_
          refine lv_iconst (v := (nI 1)) hx hb d_Mo_tree_84 (by decide) ?_
          refine lv_iadd hx hb d_Mo_tree_85 ?_
          refine tp (y := (nI 11)) (by decide) ?_
          refine ar_ld (k := 11) hx hb hK hP 2 0 rfl rfl (by omega) (by first | decide | omega) d_Mo_tree_86 ?_
          refine lv_iload_n hx hb d_Mo_tree_87 rfl (lv_at hl 0 rfl) ?_
          refine pr_call (va_runS (As := [.int (f_5 10), .int (f_5 11), .int (nI 5)]) (rest := [.int (nI 5), .ref hnd]) ⟨hx, hb, hml, hown, hts⟩ (c_Mo_join l dC dI cI (a := f_5 10) (b := f_5 11) (k := 5) ) ⟨callB_of 3 hts (gd kw_435) rfl rfl rfl (hts _ kw_41) (hts _ kw_433) (by decide +kernel) ⟨Nat.le_of_ble_eq_true rfl, Nat.le_of_ble_eq_true rfl⟩, (hts _ kw_434)⟩ ⟨fun a U g mk q => by obtain ⟨q0, qP, qK⟩ := q; exact ⟨q0, qP, qK.call⟩, fun U hU hW => ⟨rfl, by rw [hU]; exact hP.sub [] rfl, hKN.warm hW⟩⟩ rfl rfl hl.1 rfl (lv_room (Nat.le_of_ble_eq_true rfl)) d_Mo_tree_88 ⟨Nat.zero_le _, Nat.zero_le _⟩) ?_
          refine ar_st (k := 5) hx hb hK hP hD hS 2 0 rfl rfl (by omega) (by first | decide | omega) d_Mo_tree_91 (fun H locs hP hD hS => ?_)
          obtain ⟨f_7, e_7⟩ : ∃ z : Nat → Int32, z = tn f_5 5 := ⟨_, rfl⟩
          have hP : va_P (dC, dI) classes [(hm, .inr (3, [.int sc, .ref hw, .int (nI cn), .int (nI fu), .int lf, .int (bI dd), .int dn, .int rn, .int (bI tr), .int (nI lg), .ref he, .int me, .ref hd, .ref hen, .ref hnd])), (hen, .inl (cI, 6, .inl ed2)), (hnd, .inl (cI, 16, .inl f_7))] H := by rw [e_7]; exact hP
          have hD : va_D A [(hm, .inr (3, [.int sc, .ref hw, .int (nI cn), .int (nI fu), .int lf, .int (bI dd), .int dn, .int rn, .int (bI tr), .int (nI lg), .ref he, .int me, .ref hd, .ref hen, .ref hnd])), (hen, .inl (cI, 6, .inl ed2)), (hnd, .inl (cI, 16, .inl f_7))] := by rw [e_7]; exact hD
          refine lv_iinc (k := 0) (v := (nI 4)) (lv' := [(1, .int (nI 4)), (0, .ref hm)]) hx hb d_Mo_tree_92 hl rfl (by decide) (by decide) rfl (fun ls hl => ?_)
          refine lv_goto (tgt := 59) hx hb d_Mo_tree_95 (by decide) ?_
          refine lv_iload_n hx hb d_Mo_tree_59 rfl (lv_at hl 0 rfl) ?_
          refine lv_iconst (v := (nI 1)) hx hb d_Mo_tree_60 (by decide) ?_
          refine nb_lt (tgt := 98) hx hb d_Mo_tree_61 (by decide) (by decide) (by decide) (fun h_8 => ?_) (fun h_8 => ?_)
          · exact absurd h_8 (by decide)
          · refine lv_aload_n hx hb d_Mo_tree_64 rfl (lv_at hl 1 rfl) ?_
            refine va_get (D := (dC, dI)) (ci := 3) (v := .ref hnd) (C := R_Mo) (T := F_Mo) (N := 15) hx hb hts in_Mo hown hK hP 0 rfl rfl 14 (by decide) (hts _ kw_453) (fun _ h9 => h9) rfl d_Mo_tree_65 ?_
            refine lv_iload_n hx hb d_Mo_tree_68 rfl (lv_at hl 0 rfl) ?_
            refine lv_aload_n hx hb d_Mo_tree_69 rfl (lv_at hl 1 rfl) ?_
            refine va_get (D := (dC, dI)) (ci := 3) (v := .ref hnd) (C := R_Mo) (T := F_Mo) (N := 15) hx hb hts in_Mo hown hK hP 0 rfl rfl 14 (by decide) (hts _ kw_453) (fun _ h9 => h9) rfl d_Mo_tree_70 ?_
            refine lv_iconst (v := (nI 2)) hx hb d_Mo_tree_73 (by decide) ?_
            refine lv_iload_n hx hb d_Mo_tree_74 rfl (lv_at hl 0 rfl) ?_
            refine lv_imul hx hb d_Mo_tree_75 ?_
            refine tp (y := (nI 8)) (by decide) ?_
            refine ar_ld (k := 8) hx hb hK hP 2 0 rfl rfl (by omega) (by first | decide | omega) d_Mo_tree_76 ?_
            refine lv_aload_n hx hb d_Mo_tree_77 rfl (lv_at hl 1 rfl) ?_
            refine va_get (D := (dC, dI)) (ci := 3) (v := .ref hnd) (C := R_Mo) (T := F_Mo) (N := 15) hx hb hts in_Mo hown hK hP 0 rfl rfl 14 (by decide) (hts _ kw_453) (fun _ h9 => h9) rfl d_Mo_tree_78 ?_
            refine lv_iconst (v := (nI 2)) hx hb d_Mo_tree_81 (by decide) ?_
            refine lv_iload_n hx hb d_Mo_tree_82 rfl (lv_at hl 0 rfl) ?_
            refine lv_imul hx hb d_Mo_tree_83 ?_
            refine tp (y := (nI 8)) (by decide) ?_
            refine lv_iconst (v := (nI 1)) hx hb d_Mo_tree_84 (by decide) ?_
            refine lv_iadd hx hb d_Mo_tree_85 ?_
            refine tp (y := (nI 9)) (by decide) ?_
            refine ar_ld (k := 9) hx hb hK hP 2 0 rfl rfl (by omega) (by first | decide | omega) d_Mo_tree_86 ?_
            refine lv_iload_n hx hb d_Mo_tree_87 rfl (lv_at hl 0 rfl) ?_
            refine pr_call (va_runS (As := [.int (f_7 8), .int (f_7 9), .int (nI 4)]) (rest := [.int (nI 4), .ref hnd]) ⟨hx, hb, hml, hown, hts⟩ (c_Mo_join l dC dI cI (a := f_7 8) (b := f_7 9) (k := 4) ) ⟨callB_of 3 hts (gd kw_435) rfl rfl rfl (hts _ kw_41) (hts _ kw_433) (by decide +kernel) ⟨Nat.le_of_ble_eq_true rfl, Nat.le_of_ble_eq_true rfl⟩, (hts _ kw_434)⟩ ⟨fun a U g mk q => by obtain ⟨q0, qP, qK⟩ := q; exact ⟨q0, qP, qK.call⟩, fun U hU hW => ⟨rfl, by rw [hU]; exact hP.sub [] rfl, hKN.warm hW⟩⟩ rfl rfl hl.1 rfl (lv_room (Nat.le_of_ble_eq_true rfl)) d_Mo_tree_88 ⟨Nat.zero_le _, Nat.zero_le _⟩) ?_
            refine ar_st (k := 4) hx hb hK hP hD hS 2 0 rfl rfl (by omega) (by first | decide | omega) d_Mo_tree_91 (fun H locs hP hD hS => ?_)
            obtain ⟨f_9, e_9⟩ : ∃ z : Nat → Int32, z = tn f_7 4 := ⟨_, rfl⟩
            have hP : va_P (dC, dI) classes [(hm, .inr (3, [.int sc, .ref hw, .int (nI cn), .int (nI fu), .int lf, .int (bI dd), .int dn, .int rn, .int (bI tr), .int (nI lg), .ref he, .int me, .ref hd, .ref hen, .ref hnd])), (hen, .inl (cI, 6, .inl ed2)), (hnd, .inl (cI, 16, .inl f_9))] H := by rw [e_9]; exact hP
            have hD : va_D A [(hm, .inr (3, [.int sc, .ref hw, .int (nI cn), .int (nI fu), .int lf, .int (bI dd), .int dn, .int rn, .int (bI tr), .int (nI lg), .ref he, .int me, .ref hd, .ref hen, .ref hnd])), (hen, .inl (cI, 6, .inl ed2)), (hnd, .inl (cI, 16, .inl f_9))] := by rw [e_9]; exact hD
            refine lv_iinc (k := 0) (v := (nI 3)) (lv' := [(1, .int (nI 3)), (0, .ref hm)]) hx hb d_Mo_tree_92 hl rfl (by decide) (by decide) rfl (fun ls hl => ?_)
            refine lv_goto (tgt := 59) hx hb d_Mo_tree_95 (by decide) ?_
            refine lv_iload_n hx hb d_Mo_tree_59 rfl (lv_at hl 0 rfl) ?_
            refine lv_iconst (v := (nI 1)) hx hb d_Mo_tree_60 (by decide) ?_
            refine nb_lt (tgt := 98) hx hb d_Mo_tree_61 (by decide) (by decide) (by decide) (fun h_10 => ?_) (fun h_10 => ?_)
            · exact absurd h_10 (by decide)
            · refine lv_aload_n hx hb d_Mo_tree_64 rfl (lv_at hl 1 rfl) ?_
              refine va_get (D := (dC, dI)) (ci := 3) (v := .ref hnd) (C := R_Mo) (T := F_Mo) (N := 15) hx hb hts in_Mo hown hK hP 0 rfl rfl 14 (by decide) (hts _ kw_453) (fun _ h9 => h9) rfl d_Mo_tree_65 ?_
              refine lv_iload_n hx hb d_Mo_tree_68 rfl (lv_at hl 0 rfl) ?_
              refine lv_aload_n hx hb d_Mo_tree_69 rfl (lv_at hl 1 rfl) ?_
              refine va_get (D := (dC, dI)) (ci := 3) (v := .ref hnd) (C := R_Mo) (T := F_Mo) (N := 15) hx hb hts in_Mo hown hK hP 0 rfl rfl 14 (by decide) (hts _ kw_453) (fun _ h9 => h9) rfl d_Mo_tree_70 ?_
              refine lv_iconst (v := (nI 2)) hx hb d_Mo_tree_73 (by decide) ?_
              refine lv_iload_n hx hb d_Mo_tree_74 rfl (lv_at hl 0 rfl) ?_
              refine lv_imul hx hb d_Mo_tree_75 ?_
              refine tp (y := (nI 6)) (by decide) ?_
              refine ar_ld (k := 6) hx hb hK hP 2 0 rfl rfl (by omega) (by first | decide | omega) d_Mo_tree_76 ?_
              refine lv_aload_n hx hb d_Mo_tree_77 rfl (lv_at hl 1 rfl) ?_
              refine va_get (D := (dC, dI)) (ci := 3) (v := .ref hnd) (C := R_Mo) (T := F_Mo) (N := 15) hx hb hts in_Mo hown hK hP 0 rfl rfl 14 (by decide) (hts _ kw_453) (fun _ h9 => h9) rfl d_Mo_tree_78 ?_
              refine lv_iconst (v := (nI 2)) hx hb d_Mo_tree_81 (by decide) ?_
              refine lv_iload_n hx hb d_Mo_tree_82 rfl (lv_at hl 0 rfl) ?_
              refine lv_imul hx hb d_Mo_tree_83 ?_
              refine tp (y := (nI 6)) (by decide) ?_
              refine lv_iconst (v := (nI 1)) hx hb d_Mo_tree_84 (by decide) ?_
              refine lv_iadd hx hb d_Mo_tree_85 ?_
              refine tp (y := (nI 7)) (by decide) ?_
              refine ar_ld (k := 7) hx hb hK hP 2 0 rfl rfl (by omega) (by first | decide | omega) d_Mo_tree_86 ?_
              refine lv_iload_n hx hb d_Mo_tree_87 rfl (lv_at hl 0 rfl) ?_
              refine pr_call (va_runS (As := [.int (f_9 6), .int (f_9 7), .int (nI 3)]) (rest := [.int (nI 3), .ref hnd]) ⟨hx, hb, hml, hown, hts⟩ (c_Mo_join l dC dI cI (a := f_9 6) (b := f_9 7) (k := 3) ) ⟨callB_of 3 hts (gd kw_435) rfl rfl rfl (hts _ kw_41) (hts _ kw_433) (by decide +kernel) ⟨Nat.le_of_ble_eq_true rfl, Nat.le_of_ble_eq_true rfl⟩, (hts _ kw_434)⟩ ⟨fun a U g mk q => by obtain ⟨q0, qP, qK⟩ := q; exact ⟨q0, qP, qK.call⟩, fun U hU hW => ⟨rfl, by rw [hU]; exact hP.sub [] rfl, hKN.warm hW⟩⟩ rfl rfl hl.1 rfl (lv_room (Nat.le_of_ble_eq_true rfl)) d_Mo_tree_88 ⟨Nat.zero_le _, Nat.zero_le _⟩) ?_
              refine ar_st (k := 3) hx hb hK hP hD hS 2 0 rfl rfl (by omega) (by first | decide | omega) d_Mo_tree_91 (fun H locs hP hD hS => ?_)
              obtain ⟨f_11, e_11⟩ : ∃ z : Nat → Int32, z = tn f_9 3 := ⟨_, rfl⟩
              have hP : va_P (dC, dI) classes [(hm, .inr (3, [.int sc, .ref hw, .int (nI cn), .int (nI fu), .int lf, .int (bI dd), .int dn, .int rn, .int (bI tr), .int (nI lg), .ref he, .int me, .ref hd, .ref hen, .ref hnd])), (hen, .inl (cI, 6, .inl ed2)), (hnd, .inl (cI, 16, .inl f_11))] H := by rw [e_11]; exact hP
              have hD : va_D A [(hm, .inr (3, [.int sc, .ref hw, .int (nI cn), .int (nI fu), .int lf, .int (bI dd), .int dn, .int rn, .int (bI tr), .int (nI lg), .ref he, .int me, .ref hd, .ref hen, .ref hnd])), (hen, .inl (cI, 6, .inl ed2)), (hnd, .inl (cI, 16, .inl f_11))] := by rw [e_11]; exact hD
              refine lv_iinc (k := 0) (v := (nI 2)) (lv' := [(1, .int (nI 2)), (0, .ref hm)]) hx hb d_Mo_tree_92 hl rfl (by decide) (by decide) rfl (fun ls hl => ?_)
              refine lv_goto (tgt := 59) hx hb d_Mo_tree_95 (by decide) ?_
              refine lv_iload_n hx hb d_Mo_tree_59 rfl (lv_at hl 0 rfl) ?_
              refine lv_iconst (v := (nI 1)) hx hb d_Mo_tree_60 (by decide) ?_
              refine nb_lt (tgt := 98) hx hb d_Mo_tree_61 (by decide) (by decide) (by decide) (fun h_12 => ?_) (fun h_12 => ?_)
              · exact absurd h_12 (by decide)
              · refine lv_aload_n hx hb d_Mo_tree_64 rfl (lv_at hl 1 rfl) ?_
                refine va_get (D := (dC, dI)) (ci := 3) (v := .ref hnd) (C := R_Mo) (T := F_Mo) (N := 15) hx hb hts in_Mo hown hK hP 0 rfl rfl 14 (by decide) (hts _ kw_453) (fun _ h9 => h9) rfl d_Mo_tree_65 ?_
                refine lv_iload_n hx hb d_Mo_tree_68 rfl (lv_at hl 0 rfl) ?_
                refine lv_aload_n hx hb d_Mo_tree_69 rfl (lv_at hl 1 rfl) ?_
                refine va_get (D := (dC, dI)) (ci := 3) (v := .ref hnd) (C := R_Mo) (T := F_Mo) (N := 15) hx hb hts in_Mo hown hK hP 0 rfl rfl 14 (by decide) (hts _ kw_453) (fun _ h9 => h9) rfl d_Mo_tree_70 ?_
                refine lv_iconst (v := (nI 2)) hx hb d_Mo_tree_73 (by decide) ?_
                refine lv_iload_n hx hb d_Mo_tree_74 rfl (lv_at hl 0 rfl) ?_
                refine lv_imul hx hb d_Mo_tree_75 ?_
                refine tp (y := (nI 4)) (by decide) ?_
                refine ar_ld (k := 4) hx hb hK hP 2 0 rfl rfl (by omega) (by first | decide | omega) d_Mo_tree_76 ?_
                refine lv_aload_n hx hb d_Mo_tree_77 rfl (lv_at hl 1 rfl) ?_
                refine va_get (D := (dC, dI)) (ci := 3) (v := .ref hnd) (C := R_Mo) (T := F_Mo) (N := 15) hx hb hts in_Mo hown hK hP 0 rfl rfl 14 (by decide) (hts _ kw_453) (fun _ h9 => h9) rfl d_Mo_tree_78 ?_
                refine lv_iconst (v := (nI 2)) hx hb d_Mo_tree_81 (by decide) ?_
                refine lv_iload_n hx hb d_Mo_tree_82 rfl (lv_at hl 0 rfl) ?_
                refine lv_imul hx hb d_Mo_tree_83 ?_
                refine tp (y := (nI 4)) (by decide) ?_
                refine lv_iconst (v := (nI 1)) hx hb d_Mo_tree_84 (by decide) ?_
                refine lv_iadd hx hb d_Mo_tree_85 ?_
                refine tp (y := (nI 5)) (by decide) ?_
                refine ar_ld (k := 5) hx hb hK hP 2 0 rfl rfl (by omega) (by first | decide | omega) d_Mo_tree_86 ?_
                refine lv_iload_n hx hb d_Mo_tree_87 rfl (lv_at hl 0 rfl) ?_
                refine pr_call (va_runS (As := [.int (f_11 4), .int (f_11 5), .int (nI 2)]) (rest := [.int (nI 2), .ref hnd]) ⟨hx, hb, hml, hown, hts⟩ (c_Mo_join l dC dI cI (a := f_11 4) (b := f_11 5) (k := 2) ) ⟨callB_of 3 hts (gd kw_435) rfl rfl rfl (hts _ kw_41) (hts _ kw_433) (by decide +kernel) ⟨Nat.le_of_ble_eq_true rfl, Nat.le_of_ble_eq_true rfl⟩, (hts _ kw_434)⟩ ⟨fun a U g mk q => by obtain ⟨q0, qP, qK⟩ := q; exact ⟨q0, qP, qK.call⟩, fun U hU hW => ⟨rfl, by rw [hU]; exact hP.sub [] rfl, hKN.warm hW⟩⟩ rfl rfl hl.1 rfl (lv_room (Nat.le_of_ble_eq_true rfl)) d_Mo_tree_88 ⟨Nat.zero_le _, Nat.zero_le _⟩) ?_
                refine ar_st (k := 2) hx hb hK hP hD hS 2 0 rfl rfl (by omega) (by first | decide | omega) d_Mo_tree_91 (fun H locs hP hD hS => ?_)
                obtain ⟨f_13, e_13⟩ : ∃ z : Nat → Int32, z = tn f_11 2 := ⟨_, rfl⟩
                have hP : va_P (dC, dI) classes [(hm, .inr (3, [.int sc, .ref hw, .int (nI cn), .int (nI fu), .int lf, .int (bI dd), .int dn, .int rn, .int (bI tr), .int (nI lg), .ref he, .int me, .ref hd, .ref hen, .ref hnd])), (hen, .inl (cI, 6, .inl ed2)), (hnd, .inl (cI, 16, .inl f_13))] H := by rw [e_13]; exact hP
                have hD : va_D A [(hm, .inr (3, [.int sc, .ref hw, .int (nI cn), .int (nI fu), .int lf, .int (bI dd), .int dn, .int rn, .int (bI tr), .int (nI lg), .ref he, .int me, .ref hd, .ref hen, .ref hnd])), (hen, .inl (cI, 6, .inl ed2)), (hnd, .inl (cI, 16, .inl f_13))] := by rw [e_13]; exact hD
                refine lv_iinc (k := 0) (v := (nI 1)) (lv' := [(1, .int (nI 1)), (0, .ref hm)]) hx hb d_Mo_tree_92 hl rfl (by decide) (by decide) rfl (fun ls hl => ?_)
                refine lv_goto (tgt := 59) hx hb d_Mo_tree_95 (by decide) ?_
                refine lv_iload_n hx hb d_Mo_tree_59 rfl (lv_at hl 0 rfl) ?_
                refine lv_iconst (v := (nI 1)) hx hb d_Mo_tree_60 (by decide) ?_
                refine nb_lt (tgt := 98) hx hb d_Mo_tree_61 (by decide) (by decide) (by decide) (fun h_14 => ?_) (fun h_14 => ?_)
                · exact absurd h_14 (by decide)
                · refine lv_aload_n hx hb d_Mo_tree_64 rfl (lv_at hl 1 rfl) ?_
                  refine va_get (D := (dC, dI)) (ci := 3) (v := .ref hnd) (C := R_Mo) (T := F_Mo) (N := 15) hx hb hts in_Mo hown hK hP 0 rfl rfl 14 (by decide) (hts _ kw_453) (fun _ h9 => h9) rfl d_Mo_tree_65 ?_
                  refine lv_iload_n hx hb d_Mo_tree_68 rfl (lv_at hl 0 rfl) ?_
                  refine lv_aload_n hx hb d_Mo_tree_69 rfl (lv_at hl 1 rfl) ?_
                  refine va_get (D := (dC, dI)) (ci := 3) (v := .ref hnd) (C := R_Mo) (T := F_Mo) (N := 15) hx hb hts in_Mo hown hK hP 0 rfl rfl 14 (by decide) (hts _ kw_453) (fun _ h9 => h9) rfl d_Mo_tree_70 ?_
                  refine lv_iconst (v := (nI 2)) hx hb d_Mo_tree_73 (by decide) ?_
                  refine lv_iload_n hx hb d_Mo_tree_74 rfl (lv_at hl 0 rfl) ?_
                  refine lv_imul hx hb d_Mo_tree_75 ?_
                  refine tp (y := (nI 2)) (by decide) ?_
                  refine ar_ld (k := 2) hx hb hK hP 2 0 rfl rfl (by omega) (by first | decide | omega) d_Mo_tree_76 ?_
                  refine lv_aload_n hx hb d_Mo_tree_77 rfl (lv_at hl 1 rfl) ?_
                  refine va_get (D := (dC, dI)) (ci := 3) (v := .ref hnd) (C := R_Mo) (T := F_Mo) (N := 15) hx hb hts in_Mo hown hK hP 0 rfl rfl 14 (by decide) (hts _ kw_453) (fun _ h9 => h9) rfl d_Mo_tree_78 ?_
                  refine lv_iconst (v := (nI 2)) hx hb d_Mo_tree_81 (by decide) ?_
                  refine lv_iload_n hx hb d_Mo_tree_82 rfl (lv_at hl 0 rfl) ?_
                  refine lv_imul hx hb d_Mo_tree_83 ?_
                  refine tp (y := (nI 2)) (by decide) ?_
                  refine lv_iconst (v := (nI 1)) hx hb d_Mo_tree_84 (by decide) ?_
                  refine lv_iadd hx hb d_Mo_tree_85 ?_
                  refine tp (y := (nI 3)) (by decide) ?_
                  refine ar_ld (k := 3) hx hb hK hP 2 0 rfl rfl (by omega) (by first | decide | omega) d_Mo_tree_86 ?_
                  refine lv_iload_n hx hb d_Mo_tree_87 rfl (lv_at hl 0 rfl) ?_
                  refine pr_call (va_runS (As := [.int (f_13 2), .int (f_13 3), .int (nI 1)]) (rest := [.int (nI 1), .ref hnd]) ⟨hx, hb, hml, hown, hts⟩ (c_Mo_join l dC dI cI (a := f_13 2) (b := f_13 3) (k := 1) ) ⟨callB_of 3 hts (gd kw_435) rfl rfl rfl (hts _ kw_41) (hts _ kw_433) (by decide +kernel) ⟨Nat.le_of_ble_eq_true rfl, Nat.le_of_ble_eq_true rfl⟩, (hts _ kw_434)⟩ ⟨fun a U g mk q => by obtain ⟨q0, qP, qK⟩ := q; exact ⟨q0, qP, qK.call⟩, fun U hU hW => ⟨rfl, by rw [hU]; exact hP.sub [] rfl, hKN.warm hW⟩⟩ rfl rfl hl.1 rfl (lv_room (Nat.le_of_ble_eq_true rfl)) d_Mo_tree_88 ⟨Nat.zero_le _, Nat.zero_le _⟩) ?_
                  refine ar_st (k := 1) hx hb hK hP hD hS 2 0 rfl rfl (by omega) (by first | decide | omega) d_Mo_tree_91 (fun H locs hP hD hS => ?_)
                  obtain ⟨f_15, e_15⟩ : ∃ z : Nat → Int32, z = tn f_13 1 := ⟨_, rfl⟩
                  have hP : va_P (dC, dI) classes [(hm, .inr (3, [.int sc, .ref hw, .int (nI cn), .int (nI fu), .int lf, .int (bI dd), .int dn, .int rn, .int (bI tr), .int (nI lg), .ref he, .int me, .ref hd, .ref hen, .ref hnd])), (hen, .inl (cI, 6, .inl ed2)), (hnd, .inl (cI, 16, .inl f_15))] H := by rw [e_15]; exact hP
                  have hD : va_D A [(hm, .inr (3, [.int sc, .ref hw, .int (nI cn), .int (nI fu), .int lf, .int (bI dd), .int dn, .int rn, .int (bI tr), .int (nI lg), .ref he, .int me, .ref hd, .ref hen, .ref hnd])), (hen, .inl (cI, 6, .inl ed2)), (hnd, .inl (cI, 16, .inl f_15))] := by rw [e_15]; exact hD
                  refine lv_iinc (k := 0) (v := (nI 0)) (lv' := [(1, .int (nI 0)), (0, .ref hm)]) hx hb d_Mo_tree_92 hl rfl (by decide) (by decide) rfl (fun ls hl => ?_)
                  refine lv_goto (tgt := 59) hx hb d_Mo_tree_95 (by decide) ?_
                  refine lv_iload_n hx hb d_Mo_tree_59 rfl (lv_at hl 0 rfl) ?_
                  refine lv_iconst (v := (nI 1)) hx hb d_Mo_tree_60 (by decide) ?_
                  refine nb_lt (tgt := 98) hx hb d_Mo_tree_61 (by decide) (by decide) (by decide) (fun h_16 => ?_) (fun h_16 => ?_)
                  · exact W.vret hx hb hr (fun t ht hW => ⟨⟨(ed2, f_15), rfl, (by rw [tree, hinv.2, show 8 - q = 0 by omega, tL]; subst e_15; subst e_13; subst e_11; subst e_9; subst e_7; subst e_5; subst e_3; simp only [tU]), by rw [ht]; exact hP, hD⟩, hS.F ht⟩) hS.2.2 d_Mo_tree_98
                  · exact absurd h_16 (by decide)
  · refine lv_iconst (v := (nI 0)) hx hb d_Mo_tree_8 (by decide) ?_
    refine lv_istore_n (lv' := [(2, .int (nI 0)), (1, .int (nI q)), (0, .ref hm)]) hx hb d_Mo_tree_9 rfl hl (by decide) rfl (fun ls hl => ?_)
    refine lv_iload_n hx hb d_Mo_tree_10 rfl (lv_at hl 0 rfl) ?_
    refine lv_bipush (v := (nI 6)) hx hb d_Mo_tree_11 (by decide) ?_
    refine nb_ge (tgt := 36) hx hb d_Mo_tree_13 (by decide) (by decide) (by decide) (fun h_17 => ?_) (fun h_17 => ?_)
    · exact absurd h_17 (by decide)
    · refine lv_aload_n hx hb d_Mo_tree_16 rfl (lv_at hl 2 rfl) ?_
      refine va_get (D := (dC, dI)) (ci := 3) (v := .ref hen) (C := R_Mo) (T := F_Mo) (N := 15) hx hb hts in_Mo hown hK hP 0 rfl rfl 13 (by decide) (hts _ kw_452) (fun _ h9 => h9) rfl d_Mo_tree_17 ?_
      refine lv_iload_n hx hb d_Mo_tree_20 rfl (lv_at hl 0 rfl) ?_
      refine lv_aload_n hx hb d_Mo_tree_21 rfl (lv_at hl 2 rfl) ?_
      refine lv_iload_n hx hb d_Mo_tree_22 rfl (lv_at hl 1 rfl) ?_
      refine lv_iload_n hx hb d_Mo_tree_23 rfl (lv_at hl 0 rfl) ?_
      refine lv_bipush (v := (nI 15)) hx hb d_Mo_tree_24 (by decide) ?_
      refine pr_call (va_runV (As := [.int (nI q), .int (nI 0), .int (nI 15)]) (rest := [.int (nI 0), .ref hen]) ⟨hx, hb, hml, hown, hts⟩ (c_Mo_chain l dC dI cI (hm := hm) (q := q) (ch := 0) (pl := 15) (sc := sc) (hw := hw) (cn := cn) (fu := fu) (lf := lf) (dd := dd) (dn := dn) (rn := rn) (tr := tr) (lg := lg) (he := he) (me := me) (hd := hd) (hen := hen) (hnd := hnd) (hpl := (by first | omega | exact dgt_le _ _))) ⟨callB_of 3 hts (gd kw_421) rfl rfl rfl (hts _ kw_41) (hts _ kw_418) (by decide +kernel) ⟨Nat.le_of_ble_eq_true rfl, Nat.le_of_ble_eq_true rfl⟩, (hts _ kw_420), (hts _ kw_19)⟩ ⟨fun a U g mk q => by obtain ⟨q0, qP, qK⟩ := q; exact ⟨q0, qP, qK.call⟩, va_recv hK hP (ci := 3) rfl (q0 := 0) rfl, fun U hU hW => ⟨rfl, by rw [hU]; exact hP.sub [0] rfl, hKN.warm hW⟩⟩ rfl rfl hl.1 rfl (lv_room (Nat.le_of_ble_eq_true rfl)) d_Mo_tree_26 ⟨Nat.zero_le _, Nat.zero_le _⟩) ?_
      refine ar_st (k := 0) hx hb hK hP hD hS 1 0 rfl rfl (by omega) (by first | decide | omega) d_Mo_tree_29 (fun H locs hP hD hS => ?_)
      have hP : va_P (dC, dI) classes [(hm, .inr (3, [.int sc, .ref hw, .int (nI cn), .int (nI fu), .int lf, .int (bI dd), .int dn, .int rn, .int (bI tr), .int (nI lg), .ref he, .int me, .ref hd, .ref hen, .ref hnd])), (hen, .inl (cI, 6, .inl (upd ed2 0 (al 0 15 0 (cs sc q 0))))), (hnd, .inl (cI, 16, .inl nd2))] H := hP
      have hD : va_D A [(hm, .inr (3, [.int sc, .ref hw, .int (nI cn), .int (nI fu), .int lf, .int (bI dd), .int dn, .int rn, .int (bI tr), .int (nI lg), .ref he, .int me, .ref hd, .ref hen, .ref hnd])), (hen, .inl (cI, 6, .inl (upd ed2 0 (al 0 15 0 (cs sc q 0))))), (hnd, .inl (cI, 16, .inl nd2))] := hD
      refine lv_iinc (k := 0) (v := (nI 1)) (lv' := [(2, .int (nI 1)), (1, .int (nI q)), (0, .ref hm)]) hx hb d_Mo_tree_30 hl rfl (by decide) (by decide) rfl (fun ls hl => ?_)
      refine lv_goto (tgt := 10) hx hb d_Mo_tree_33 (by decide) ?_
      refine lv_iload_n hx hb d_Mo_tree_10 rfl (lv_at hl 0 rfl) ?_
      refine lv_bipush (v := (nI 6)) hx hb d_Mo_tree_11 (by decide) ?_
      refine nb_ge (tgt := 36) hx hb d_Mo_tree_13 (by decide) (by decide) (by decide) (fun h_18 => ?_) (fun h_18 => ?_)
      · exact absurd h_18 (by decide)
      · refine lv_aload_n hx hb d_Mo_tree_16 rfl (lv_at hl 2 rfl) ?_
        refine va_get (D := (dC, dI)) (ci := 3) (v := .ref hen) (C := R_Mo) (T := F_Mo) (N := 15) hx hb hts in_Mo hown hK hP 0 rfl rfl 13 (by decide) (hts _ kw_452) (fun _ h9 => h9) rfl d_Mo_tree_17 ?_
        refine lv_iload_n hx hb d_Mo_tree_20 rfl (lv_at hl 0 rfl) ?_
        refine lv_aload_n hx hb d_Mo_tree_21 rfl (lv_at hl 2 rfl) ?_
        refine lv_iload_n hx hb d_Mo_tree_22 rfl (lv_at hl 1 rfl) ?_
        refine lv_iload_n hx hb d_Mo_tree_23 rfl (lv_at hl 0 rfl) ?_
        refine lv_bipush (v := (nI 15)) hx hb d_Mo_tree_24 (by decide) ?_
        refine pr_call (va_runV (As := [.int (nI q), .int (nI 1), .int (nI 15)]) (rest := [.int (nI 1), .ref hen]) ⟨hx, hb, hml, hown, hts⟩ (c_Mo_chain l dC dI cI (hm := hm) (q := q) (ch := 1) (pl := 15) (sc := sc) (hw := hw) (cn := cn) (fu := fu) (lf := lf) (dd := dd) (dn := dn) (rn := rn) (tr := tr) (lg := lg) (he := he) (me := me) (hd := hd) (hen := hen) (hnd := hnd) (hpl := (by first | omega | exact dgt_le _ _))) ⟨callB_of 3 hts (gd kw_421) rfl rfl rfl (hts _ kw_41) (hts _ kw_418) (by decide +kernel) ⟨Nat.le_of_ble_eq_true rfl, Nat.le_of_ble_eq_true rfl⟩, (hts _ kw_420), (hts _ kw_19)⟩ ⟨fun a U g mk q => by obtain ⟨q0, qP, qK⟩ := q; exact ⟨q0, qP, qK.call⟩, va_recv hK hP (ci := 3) rfl (q0 := 0) rfl, fun U hU hW => ⟨rfl, by rw [hU]; exact hP.sub [0] rfl, hKN.warm hW⟩⟩ rfl rfl hl.1 rfl (lv_room (Nat.le_of_ble_eq_true rfl)) d_Mo_tree_26 ⟨Nat.zero_le _, Nat.zero_le _⟩) ?_
        refine ar_st (k := 1) hx hb hK hP hD hS 1 0 rfl rfl (by omega) (by first | decide | omega) d_Mo_tree_29 (fun H locs hP hD hS => ?_)
        have hP : va_P (dC, dI) classes [(hm, .inr (3, [.int sc, .ref hw, .int (nI cn), .int (nI fu), .int lf, .int (bI dd), .int dn, .int rn, .int (bI tr), .int (nI lg), .ref he, .int me, .ref hd, .ref hen, .ref hnd])), (hen, .inl (cI, 6, .inl (upd (upd ed2 0 (al 0 15 0 (cs sc q 0))) 1 (al 1 15 0 (cs sc q 1))))), (hnd, .inl (cI, 16, .inl nd2))] H := hP
        have hD : va_D A [(hm, .inr (3, [.int sc, .ref hw, .int (nI cn), .int (nI fu), .int lf, .int (bI dd), .int dn, .int rn, .int (bI tr), .int (nI lg), .ref he, .int me, .ref hd, .ref hen, .ref hnd])), (hen, .inl (cI, 6, .inl (upd (upd ed2 0 (al 0 15 0 (cs sc q 0))) 1 (al 1 15 0 (cs sc q 1))))), (hnd, .inl (cI, 16, .inl nd2))] := hD
        refine lv_iinc (k := 0) (v := (nI 2)) (lv' := [(2, .int (nI 2)), (1, .int (nI q)), (0, .ref hm)]) hx hb d_Mo_tree_30 hl rfl (by decide) (by decide) rfl (fun ls hl => ?_)
        refine lv_goto (tgt := 10) hx hb d_Mo_tree_33 (by decide) ?_
        refine lv_iload_n hx hb d_Mo_tree_10 rfl (lv_at hl 0 rfl) ?_
        refine lv_bipush (v := (nI 6)) hx hb d_Mo_tree_11 (by decide) ?_
        refine nb_ge (tgt := 36) hx hb d_Mo_tree_13 (by decide) (by decide) (by decide) (fun h_19 => ?_) (fun h_19 => ?_)
        · exact absurd h_19 (by decide)
        · refine lv_aload_n hx hb d_Mo_tree_16 rfl (lv_at hl 2 rfl) ?_
          refine va_get (D := (dC, dI)) (ci := 3) (v := .ref hen) (C := R_Mo) (T := F_Mo) (N := 15) hx hb hts in_Mo hown hK hP 0 rfl rfl 13 (by decide) (hts _ kw_452) (fun _ h9 => h9) rfl d_Mo_tree_17 ?_
          refine lv_iload_n hx hb d_Mo_tree_20 rfl (lv_at hl 0 rfl) ?_
          refine lv_aload_n hx hb d_Mo_tree_21 rfl (lv_at hl 2 rfl) ?_
          refine lv_iload_n hx hb d_Mo_tree_22 rfl (lv_at hl 1 rfl) ?_
          refine lv_iload_n hx hb d_Mo_tree_23 rfl (lv_at hl 0 rfl) ?_
          refine lv_bipush (v := (nI 15)) hx hb d_Mo_tree_24 (by decide) ?_
          refine pr_call (va_runV (As := [.int (nI q), .int (nI 2), .int (nI 15)]) (rest := [.int (nI 2), .ref hen]) ⟨hx, hb, hml, hown, hts⟩ (c_Mo_chain l dC dI cI (hm := hm) (q := q) (ch := 2) (pl := 15) (sc := sc) (hw := hw) (cn := cn) (fu := fu) (lf := lf) (dd := dd) (dn := dn) (rn := rn) (tr := tr) (lg := lg) (he := he) (me := me) (hd := hd) (hen := hen) (hnd := hnd) (hpl := (by first | omega | exact dgt_le _ _))) ⟨callB_of 3 hts (gd kw_421) rfl rfl rfl (hts _ kw_41) (hts _ kw_418) (by decide +kernel) ⟨Nat.le_of_ble_eq_true rfl, Nat.le_of_ble_eq_true rfl⟩, (hts _ kw_420), (hts _ kw_19)⟩ ⟨fun a U g mk q => by obtain ⟨q0, qP, qK⟩ := q; exact ⟨q0, qP, qK.call⟩, va_recv hK hP (ci := 3) rfl (q0 := 0) rfl, fun U hU hW => ⟨rfl, by rw [hU]; exact hP.sub [0] rfl, hKN.warm hW⟩⟩ rfl rfl hl.1 rfl (lv_room (Nat.le_of_ble_eq_true rfl)) d_Mo_tree_26 ⟨Nat.zero_le _, Nat.zero_le _⟩) ?_
          refine ar_st (k := 2) hx hb hK hP hD hS 1 0 rfl rfl (by omega) (by first | decide | omega) d_Mo_tree_29 (fun H locs hP hD hS => ?_)
          have hP : va_P (dC, dI) classes [(hm, .inr (3, [.int sc, .ref hw, .int (nI cn), .int (nI fu), .int lf, .int (bI dd), .int dn, .int rn, .int (bI tr), .int (nI lg), .ref he, .int me, .ref hd, .ref hen, .ref hnd])), (hen, .inl (cI, 6, .inl (upd (upd (upd ed2 0 (al 0 15 0 (cs sc q 0))) 1 (al 1 15 0 (cs sc q 1))) 2 (al 2 15 0 (cs sc q 2))))), (hnd, .inl (cI, 16, .inl nd2))] H := hP
          have hD : va_D A [(hm, .inr (3, [.int sc, .ref hw, .int (nI cn), .int (nI fu), .int lf, .int (bI dd), .int dn, .int rn, .int (bI tr), .int (nI lg), .ref he, .int me, .ref hd, .ref hen, .ref hnd])), (hen, .inl (cI, 6, .inl (upd (upd (upd ed2 0 (al 0 15 0 (cs sc q 0))) 1 (al 1 15 0 (cs sc q 1))) 2 (al 2 15 0 (cs sc q 2))))), (hnd, .inl (cI, 16, .inl nd2))] := hD
          refine lv_iinc (k := 0) (v := (nI 3)) (lv' := [(2, .int (nI 3)), (1, .int (nI q)), (0, .ref hm)]) hx hb d_Mo_tree_30 hl rfl (by decide) (by decide) rfl (fun ls hl => ?_)
          refine lv_goto (tgt := 10) hx hb d_Mo_tree_33 (by decide) ?_
          refine lv_iload_n hx hb d_Mo_tree_10 rfl (lv_at hl 0 rfl) ?_
          refine lv_bipush (v := (nI 6)) hx hb d_Mo_tree_11 (by decide) ?_
          refine nb_ge (tgt := 36) hx hb d_Mo_tree_13 (by decide) (by decide) (by decide) (fun h_20 => ?_) (fun h_20 => ?_)
          · exact absurd h_20 (by decide)
          · refine lv_aload_n hx hb d_Mo_tree_16 rfl (lv_at hl 2 rfl) ?_
            refine va_get (D := (dC, dI)) (ci := 3) (v := .ref hen) (C := R_Mo) (T := F_Mo) (N := 15) hx hb hts in_Mo hown hK hP 0 rfl rfl 13 (by decide) (hts _ kw_452) (fun _ h9 => h9) rfl d_Mo_tree_17 ?_
            refine lv_iload_n hx hb d_Mo_tree_20 rfl (lv_at hl 0 rfl) ?_
            refine lv_aload_n hx hb d_Mo_tree_21 rfl (lv_at hl 2 rfl) ?_
            refine lv_iload_n hx hb d_Mo_tree_22 rfl (lv_at hl 1 rfl) ?_
            refine lv_iload_n hx hb d_Mo_tree_23 rfl (lv_at hl 0 rfl) ?_
            refine lv_bipush (v := (nI 15)) hx hb d_Mo_tree_24 (by decide) ?_
            refine pr_call (va_runV (As := [.int (nI q), .int (nI 3), .int (nI 15)]) (rest := [.int (nI 3), .ref hen]) ⟨hx, hb, hml, hown, hts⟩ (c_Mo_chain l dC dI cI (hm := hm) (q := q) (ch := 3) (pl := 15) (sc := sc) (hw := hw) (cn := cn) (fu := fu) (lf := lf) (dd := dd) (dn := dn) (rn := rn) (tr := tr) (lg := lg) (he := he) (me := me) (hd := hd) (hen := hen) (hnd := hnd) (hpl := (by first | omega | exact dgt_le _ _))) ⟨callB_of 3 hts (gd kw_421) rfl rfl rfl (hts _ kw_41) (hts _ kw_418) (by decide +kernel) ⟨Nat.le_of_ble_eq_true rfl, Nat.le_of_ble_eq_true rfl⟩, (hts _ kw_420), (hts _ kw_19)⟩ ⟨fun a U g mk q => by obtain ⟨q0, qP, qK⟩ := q; exact ⟨q0, qP, qK.call⟩, va_recv hK hP (ci := 3) rfl (q0 := 0) rfl, fun U hU hW => ⟨rfl, by rw [hU]; exact hP.sub [0] rfl, hKN.warm hW⟩⟩ rfl rfl hl.1 rfl (lv_room (Nat.le_of_ble_eq_true rfl)) d_Mo_tree_26 ⟨Nat.zero_le _, Nat.zero_le _⟩) ?_
            refine ar_st (k := 3) hx hb hK hP hD hS 1 0 rfl rfl (by omega) (by first | decide | omega) d_Mo_tree_29 (fun H locs hP hD hS => ?_)
            have hP : va_P (dC, dI) classes [(hm, .inr (3, [.int sc, .ref hw, .int (nI cn), .int (nI fu), .int lf, .int (bI dd), .int dn, .int rn, .int (bI tr), .int (nI lg), .ref he, .int me, .ref hd, .ref hen, .ref hnd])), (hen, .inl (cI, 6, .inl (upd (upd (upd (upd ed2 0 (al 0 15 0 (cs sc q 0))) 1 (al 1 15 0 (cs sc q 1))) 2 (al 2 15 0 (cs sc q 2))) 3 (al 3 15 0 (cs sc q 3))))), (hnd, .inl (cI, 16, .inl nd2))] H := hP
            have hD : va_D A [(hm, .inr (3, [.int sc, .ref hw, .int (nI cn), .int (nI fu), .int lf, .int (bI dd), .int dn, .int rn, .int (bI tr), .int (nI lg), .ref he, .int me, .ref hd, .ref hen, .ref hnd])), (hen, .inl (cI, 6, .inl (upd (upd (upd (upd ed2 0 (al 0 15 0 (cs sc q 0))) 1 (al 1 15 0 (cs sc q 1))) 2 (al 2 15 0 (cs sc q 2))) 3 (al 3 15 0 (cs sc q 3))))), (hnd, .inl (cI, 16, .inl nd2))] := hD
            refine lv_iinc (k := 0) (v := (nI 4)) (lv' := [(2, .int (nI 4)), (1, .int (nI q)), (0, .ref hm)]) hx hb d_Mo_tree_30 hl rfl (by decide) (by decide) rfl (fun ls hl => ?_)
            refine lv_goto (tgt := 10) hx hb d_Mo_tree_33 (by decide) ?_
            refine lv_iload_n hx hb d_Mo_tree_10 rfl (lv_at hl 0 rfl) ?_
            refine lv_bipush (v := (nI 6)) hx hb d_Mo_tree_11 (by decide) ?_
            refine nb_ge (tgt := 36) hx hb d_Mo_tree_13 (by decide) (by decide) (by decide) (fun h_21 => ?_) (fun h_21 => ?_)
            · exact absurd h_21 (by decide)
            · refine lv_aload_n hx hb d_Mo_tree_16 rfl (lv_at hl 2 rfl) ?_
              refine va_get (D := (dC, dI)) (ci := 3) (v := .ref hen) (C := R_Mo) (T := F_Mo) (N := 15) hx hb hts in_Mo hown hK hP 0 rfl rfl 13 (by decide) (hts _ kw_452) (fun _ h9 => h9) rfl d_Mo_tree_17 ?_
              refine lv_iload_n hx hb d_Mo_tree_20 rfl (lv_at hl 0 rfl) ?_
              refine lv_aload_n hx hb d_Mo_tree_21 rfl (lv_at hl 2 rfl) ?_
              refine lv_iload_n hx hb d_Mo_tree_22 rfl (lv_at hl 1 rfl) ?_
              refine lv_iload_n hx hb d_Mo_tree_23 rfl (lv_at hl 0 rfl) ?_
              refine lv_bipush (v := (nI 15)) hx hb d_Mo_tree_24 (by decide) ?_
              refine pr_call (va_runV (As := [.int (nI q), .int (nI 4), .int (nI 15)]) (rest := [.int (nI 4), .ref hen]) ⟨hx, hb, hml, hown, hts⟩ (c_Mo_chain l dC dI cI (hm := hm) (q := q) (ch := 4) (pl := 15) (sc := sc) (hw := hw) (cn := cn) (fu := fu) (lf := lf) (dd := dd) (dn := dn) (rn := rn) (tr := tr) (lg := lg) (he := he) (me := me) (hd := hd) (hen := hen) (hnd := hnd) (hpl := (by first | omega | exact dgt_le _ _))) ⟨callB_of 3 hts (gd kw_421) rfl rfl rfl (hts _ kw_41) (hts _ kw_418) (by decide +kernel) ⟨Nat.le_of_ble_eq_true rfl, Nat.le_of_ble_eq_true rfl⟩, (hts _ kw_420), (hts _ kw_19)⟩ ⟨fun a U g mk q => by obtain ⟨q0, qP, qK⟩ := q; exact ⟨q0, qP, qK.call⟩, va_recv hK hP (ci := 3) rfl (q0 := 0) rfl, fun U hU hW => ⟨rfl, by rw [hU]; exact hP.sub [0] rfl, hKN.warm hW⟩⟩ rfl rfl hl.1 rfl (lv_room (Nat.le_of_ble_eq_true rfl)) d_Mo_tree_26 ⟨Nat.zero_le _, Nat.zero_le _⟩) ?_
              refine ar_st (k := 4) hx hb hK hP hD hS 1 0 rfl rfl (by omega) (by first | decide | omega) d_Mo_tree_29 (fun H locs hP hD hS => ?_)
              have hP : va_P (dC, dI) classes [(hm, .inr (3, [.int sc, .ref hw, .int (nI cn), .int (nI fu), .int lf, .int (bI dd), .int dn, .int rn, .int (bI tr), .int (nI lg), .ref he, .int me, .ref hd, .ref hen, .ref hnd])), (hen, .inl (cI, 6, .inl (upd (upd (upd (upd (upd ed2 0 (al 0 15 0 (cs sc q 0))) 1 (al 1 15 0 (cs sc q 1))) 2 (al 2 15 0 (cs sc q 2))) 3 (al 3 15 0 (cs sc q 3))) 4 (al 4 15 0 (cs sc q 4))))), (hnd, .inl (cI, 16, .inl nd2))] H := hP
              have hD : va_D A [(hm, .inr (3, [.int sc, .ref hw, .int (nI cn), .int (nI fu), .int lf, .int (bI dd), .int dn, .int rn, .int (bI tr), .int (nI lg), .ref he, .int me, .ref hd, .ref hen, .ref hnd])), (hen, .inl (cI, 6, .inl (upd (upd (upd (upd (upd ed2 0 (al 0 15 0 (cs sc q 0))) 1 (al 1 15 0 (cs sc q 1))) 2 (al 2 15 0 (cs sc q 2))) 3 (al 3 15 0 (cs sc q 3))) 4 (al 4 15 0 (cs sc q 4))))), (hnd, .inl (cI, 16, .inl nd2))] := hD
              refine lv_iinc (k := 0) (v := (nI 5)) (lv' := [(2, .int (nI 5)), (1, .int (nI q)), (0, .ref hm)]) hx hb d_Mo_tree_30 hl rfl (by decide) (by decide) rfl (fun ls hl => ?_)
              refine lv_goto (tgt := 10) hx hb d_Mo_tree_33 (by decide) ?_
              refine lv_iload_n hx hb d_Mo_tree_10 rfl (lv_at hl 0 rfl) ?_
              refine lv_bipush (v := (nI 6)) hx hb d_Mo_tree_11 (by decide) ?_
              refine nb_ge (tgt := 36) hx hb d_Mo_tree_13 (by decide) (by decide) (by decide) (fun h_22 => ?_) (fun h_22 => ?_)
              · exact absurd h_22 (by decide)
              · refine lv_aload_n hx hb d_Mo_tree_16 rfl (lv_at hl 2 rfl) ?_
                refine va_get (D := (dC, dI)) (ci := 3) (v := .ref hen) (C := R_Mo) (T := F_Mo) (N := 15) hx hb hts in_Mo hown hK hP 0 rfl rfl 13 (by decide) (hts _ kw_452) (fun _ h9 => h9) rfl d_Mo_tree_17 ?_
                refine lv_iload_n hx hb d_Mo_tree_20 rfl (lv_at hl 0 rfl) ?_
                refine lv_aload_n hx hb d_Mo_tree_21 rfl (lv_at hl 2 rfl) ?_
                refine lv_iload_n hx hb d_Mo_tree_22 rfl (lv_at hl 1 rfl) ?_
                refine lv_iload_n hx hb d_Mo_tree_23 rfl (lv_at hl 0 rfl) ?_
                refine lv_bipush (v := (nI 15)) hx hb d_Mo_tree_24 (by decide) ?_
                refine pr_call (va_runV (As := [.int (nI q), .int (nI 5), .int (nI 15)]) (rest := [.int (nI 5), .ref hen]) ⟨hx, hb, hml, hown, hts⟩ (c_Mo_chain l dC dI cI (hm := hm) (q := q) (ch := 5) (pl := 15) (sc := sc) (hw := hw) (cn := cn) (fu := fu) (lf := lf) (dd := dd) (dn := dn) (rn := rn) (tr := tr) (lg := lg) (he := he) (me := me) (hd := hd) (hen := hen) (hnd := hnd) (hpl := (by first | omega | exact dgt_le _ _))) ⟨callB_of 3 hts (gd kw_421) rfl rfl rfl (hts _ kw_41) (hts _ kw_418) (by decide +kernel) ⟨Nat.le_of_ble_eq_true rfl, Nat.le_of_ble_eq_true rfl⟩, (hts _ kw_420), (hts _ kw_19)⟩ ⟨fun a U g mk q => by obtain ⟨q0, qP, qK⟩ := q; exact ⟨q0, qP, qK.call⟩, va_recv hK hP (ci := 3) rfl (q0 := 0) rfl, fun U hU hW => ⟨rfl, by rw [hU]; exact hP.sub [0] rfl, hKN.warm hW⟩⟩ rfl rfl hl.1 rfl (lv_room (Nat.le_of_ble_eq_true rfl)) d_Mo_tree_26 ⟨Nat.zero_le _, Nat.zero_le _⟩) ?_
                refine ar_st (k := 5) hx hb hK hP hD hS 1 0 rfl rfl (by omega) (by first | decide | omega) d_Mo_tree_29 (fun H locs hP hD hS => ?_)
                have hP : va_P (dC, dI) classes [(hm, .inr (3, [.int sc, .ref hw, .int (nI cn), .int (nI fu), .int lf, .int (bI dd), .int dn, .int rn, .int (bI tr), .int (nI lg), .ref he, .int me, .ref hd, .ref hen, .ref hnd])), (hen, .inl (cI, 6, .inl (upd (upd (upd (upd (upd (upd ed2 0 (al 0 15 0 (cs sc q 0))) 1 (al 1 15 0 (cs sc q 1))) 2 (al 2 15 0 (cs sc q 2))) 3 (al 3 15 0 (cs sc q 3))) 4 (al 4 15 0 (cs sc q 4))) 5 (al 5 15 0 (cs sc q 5))))), (hnd, .inl (cI, 16, .inl nd2))] H := hP
                have hD : va_D A [(hm, .inr (3, [.int sc, .ref hw, .int (nI cn), .int (nI fu), .int lf, .int (bI dd), .int dn, .int rn, .int (bI tr), .int (nI lg), .ref he, .int me, .ref hd, .ref hen, .ref hnd])), (hen, .inl (cI, 6, .inl (upd (upd (upd (upd (upd (upd ed2 0 (al 0 15 0 (cs sc q 0))) 1 (al 1 15 0 (cs sc q 1))) 2 (al 2 15 0 (cs sc q 2))) 3 (al 3 15 0 (cs sc q 3))) 4 (al 4 15 0 (cs sc q 4))) 5 (al 5 15 0 (cs sc q 5))))), (hnd, .inl (cI, 16, .inl nd2))] := hD
                refine lv_iinc (k := 0) (v := (nI 6)) (lv' := [(2, .int (nI 6)), (1, .int (nI q)), (0, .ref hm)]) hx hb d_Mo_tree_30 hl rfl (by decide) (by decide) rfl (fun ls hl => ?_)
                refine lv_goto (tgt := 10) hx hb d_Mo_tree_33 (by decide) ?_
                refine lv_iload_n hx hb d_Mo_tree_10 rfl (lv_at hl 0 rfl) ?_
                refine lv_bipush (v := (nI 6)) hx hb d_Mo_tree_11 (by decide) ?_
                refine nb_ge (tgt := 36) hx hb d_Mo_tree_13 (by decide) (by decide) (by decide) (fun h_23 => ?_) (fun h_23 => ?_)
                · refine lv_aload_n hx hb d_Mo_tree_36 rfl (lv_at hl 2 rfl) ?_
                  refine va_get (D := (dC, dI)) (ci := 3) (v := .ref hnd) (C := R_Mo) (T := F_Mo) (N := 15) hx hb hts in_Mo hown hK hP 0 rfl rfl 14 (by decide) (hts _ kw_453) (fun _ h9 => h9) rfl d_Mo_tree_37 ?_
                  refine lv_bipush (v := (nI 8)) hx hb d_Mo_tree_40 (by decide) ?_
                  refine lv_iload_n hx hb d_Mo_tree_42 rfl (lv_at hl 1 rfl) ?_
                  refine lv_iadd hx hb d_Mo_tree_43 ?_
                  refine tp (nI_add _ _) ?_
                  refine lv_aload_n hx hb d_Mo_tree_44 rfl (lv_at hl 2 rfl) ?_
                  refine lv_iload_n hx hb d_Mo_tree_45 rfl (lv_at hl 1 rfl) ?_
                  refine pr_call (va_runV (As := [.int (nI q)]) (rest := [.int (nI (8 + q)), .ref hnd]) ⟨hx, hb, hml, hown, hts⟩ (c_Mo_leaf l dC dI cI (hm := hm) (x := (nI q)) (sc := sc) (hw := hw) (cn := cn) (fu := fu) (lf := lf) (dd := dd) (dn := dn) (rn := rn) (tr := tr) (lg := lg) (he := he) (me := me) (hd := hd) (hen := hen) (hnd := hnd) (ed := upd (upd (upd (upd (upd (upd ed2 0 (al 0 15 0 (cs sc q 0))) 1 (al 1 15 0 (cs sc q 1))) 2 (al 2 15 0 (cs sc q 2))) 3 (al 3 15 0 (cs sc q 3))) 4 (al 4 15 0 (cs sc q 4))) 5 (al 5 15 0 (cs sc q 5))) ) ⟨callB_of 1 hts (gd kw_432) rfl rfl rfl (hts _ kw_41) (hts _ kw_429) (by decide +kernel) ⟨Nat.le_of_ble_eq_true rfl, Nat.le_of_ble_eq_true rfl⟩, (hts _ kw_431), (hts _ kw_21)⟩ ⟨fun a U g mk q => by obtain ⟨q0, qP, qK⟩ := q; exact ⟨q0, qP, qK.call⟩, va_recv hK hP (ci := 3) rfl (q0 := 0) rfl, fun U hU hW => ⟨rfl, by rw [hU]; exact hP.sub [0, 1] rfl, hKN.warm hW⟩⟩ rfl rfl hl.1 rfl (lv_room (Nat.le_of_ble_eq_true rfl)) d_Mo_tree_46 ⟨Nat.zero_le _, Nat.zero_le _⟩) ?_
                  refine ar_st (k := 8 + q) hx hb hK hP hD hS 2 0 rfl rfl (by omega) (by first | decide | omega) d_Mo_tree_49 (fun H locs hP hD hS => ?_)
                  have hP : va_P (dC, dI) classes [(hm, .inr (3, [.int sc, .ref hw, .int (nI cn), .int (nI fu), .int lf, .int (bI dd), .int dn, .int rn, .int (bI tr), .int (nI lg), .ref he, .int me, .ref hd, .ref hen, .ref hnd])), (hen, .inl (cI, 6, .inl (upd (upd (upd (upd (upd (upd ed2 0 (al 0 15 0 (cs sc q 0))) 1 (al 1 15 0 (cs sc q 1))) 2 (al 2 15 0 (cs sc q 2))) 3 (al 3 15 0 (cs sc q 3))) 4 (al 4 15 0 (cs sc q 4))) 5 (al 5 15 0 (cs sc q 5))))), (hnd, .inl (cI, 16, .inl (upd nd2 (8 + q) (lf6 (nI q) (upd (upd (upd (upd (upd (upd ed2 0 (al 0 15 0 (cs sc q 0))) 1 (al 1 15 0 (cs sc q 1))) 2 (al 2 15 0 (cs sc q 2))) 3 (al 3 15 0 (cs sc q 3))) 4 (al 4 15 0 (cs sc q 4))) 5 (al 5 15 0 (cs sc q 5)))))))] H := hP
                  have hD : va_D A [(hm, .inr (3, [.int sc, .ref hw, .int (nI cn), .int (nI fu), .int lf, .int (bI dd), .int dn, .int rn, .int (bI tr), .int (nI lg), .ref he, .int me, .ref hd, .ref hen, .ref hnd])), (hen, .inl (cI, 6, .inl (upd (upd (upd (upd (upd (upd ed2 0 (al 0 15 0 (cs sc q 0))) 1 (al 1 15 0 (cs sc q 1))) 2 (al 2 15 0 (cs sc q 2))) 3 (al 3 15 0 (cs sc q 3))) 4 (al 4 15 0 (cs sc q 4))) 5 (al 5 15 0 (cs sc q 5))))), (hnd, .inl (cI, 16, .inl (upd nd2 (8 + q) (lf6 (nI q) (upd (upd (upd (upd (upd (upd ed2 0 (al 0 15 0 (cs sc q 0))) 1 (al 1 15 0 (cs sc q 1))) 2 (al 2 15 0 (cs sc q 2))) 3 (al 3 15 0 (cs sc q 3))) 4 (al 4 15 0 (cs sc q 4))) 5 (al 5 15 0 (cs sc q 5)))))))] := hD
                  refine lv_iinc (k := 1) (v := (nI (q + 1))) (lv' := [(1, .int (nI (q + 1))), (2, .int (nI 6)), (0, .ref hm)]) hx hb d_Mo_tree_50 hl rfl (nI_inc _) (by decide) rfl (fun ls hl => ?_)
                  refine lv_goto (tgt := 2) hx hb d_Mo_tree_53 (by decide) ?_
                  have hl := lv_sub (l' := [(1, .int (nI (q + 1))), (0, .ref hm)]) hl [0, 2] rfl
                  exact ih (q + 1, upd (upd (upd (upd (upd (upd ed2 0 (al 0 15 0 (cs sc q 0))) 1 (al 1 15 0 (cs sc q 1))) 2 (al 2 15 0 (cs sc q 2))) 3 (al 3 15 0 (cs sc q 3))) 4 (al 4 15 0 (cs sc q 4))) 5 (al 5 15 0 (cs sc q 5)), upd nd2 (8 + q) (lf6 (nI q) (upd (upd (upd (upd (upd (upd ed2 0 (al 0 15 0 (cs sc q 0))) 1 (al 1 15 0 (cs sc q 1))) 2 (al 2 15 0 (cs sc q 2))) 3 (al 3 15 0 (cs sc q 3))) 4 (al 4 15 0 (cs sc q 4))) 5 (al 5 15 0 (cs sc q 5))))) ls H locs (by show 8 - (q + 1) < 8 - q; omega) ⟨⟨by (try dsimp only); omega, by rw [hinv.2, show 8 - q = (8 - (q + 1)) + 1 by omega, tL]; simp only [tE]⟩, hl, hP, hD, hS⟩
                · exact absurd h_23 (by decide)
set_option maxHeartbeats 4000000 in
set_option maxRecDepth 100000 in
theorem c_Mo_key (l : Launch) (dC : Nat → ClassId) (dI : Nat → Nat → Nat) (cI : ClassId) (hm : Nat) (sc : Int32) (hw : Nat) (cn : Nat) (fu : Nat) (lf : Int32) (dd : Bool) (dn : Int32) (rn : Int32) (tr : Bool) (lg : Nat) (he : Nat) (me : Int32) (hd : Nat) (hen : Nat) (hnd : Nat) (ed : Nat → Int32) (nd : Nat → Int32)  (sz : Nat) : Met l y_Mo_key w_Mo_key ({ frames := 4, cells := 0, slots := 0, locals := 93 }) (va_Pc [.ref hm] (fun U => U.heap.size = sz ∧ va_P (dC, dI) classes [(hm, .inr (3, [.int sc, .ref hw, .int (nI cn), .int (nI fu), .int lf, .int (bI dd), .int dn, .int rn, .int (bI tr), .int (nI lg), .ref he, .int me, .ref hd, .ref hen, .ref hnd])), (hen, .inl (cI, 6, .inl ed)), (hnd, .inl (cI, 16, .inl nd))] U.heap ∧ KN dC dI cI U ∧ va_D (fun _ => True) [(hm, .inr (3, [.int sc, .ref hw, .int (nI cn), .int (nI fu), .int lf, .int (bI dd), .int dn, .int rn, .int (bI tr), .int (nI lg), .ref he, .int me, .ref hd, .ref hen, .ref hnd])), (hen, .inl (cI, 6, .inl ed)), (hnd, .inl (cI, 16, .inl nd))])) (va_Qi (fun (r : Int32) (u : (Nat → Int32) × (Nat → Int32)) => keyS sc ed nd = (r, u)) (fun (u : (Nat → Int32) × (Nat → Int32)) t => va_P (dC, dI) classes [(hm, .inr (3, [.int sc, .ref hw, .int (nI cn), .int (nI fu), .int lf, .int (bI dd), .int dn, .int rn, .int (bI tr), .int (nI lg), .ref he, .int me, .ref hd, .ref hen, .ref hnd])), (hen, .inl (cI, 6, .inl u.1)), (hnd, .inl (cI, 16, .inl u.2))] t.heap ∧ va_D (va_A [(hm, .inr (3, [.int sc, .ref hw, .int (nI cn), .int (nI fu), .int lf, .int (bI dd), .int dn, .int rn, .int (bI tr), .int (nI lg), .ref he, .int me, .ref hd, .ref hen, .ref hnd])), (hen, .inl (cI, 6, .inl ed)), (hnd, .inl (cI, 16, .inl nd))] sz) [(hm, .inr (3, [.int sc, .ref hw, .int (nI cn), .int (nI fu), .int lf, .int (bI dd), .int dn, .int rn, .int (bI tr), .int (nI lg), .ref he, .int me, .ref hd, .ref hen, .ref hnd])), (hen, .inl (cI, 6, .inl u.1)), (hnd, .inl (cI, 16, .inl u.2))]) (va_A [(hm, .inr (3, [.int sc, .ref hw, .int (nI cn), .int (nI fu), .int lf, .int (bI dd), .int dn, .int rn, .int (bI tr), .int (nI lg), .ref he, .int me, .ref hd, .ref hen, .ref hnd])), (hen, .inl (cI, 6, .inl ed)), (hnd, .inl (cI, 16, .inl nd))] sz)) 0 0 (va_A [(hm, .inr (3, [.int sc, .ref hw, .int (nI cn), .int (nI fu), .int lf, .int (bI dd), .int dn, .int rn, .int (bI tr), .int (nI lg), .ref he, .int me, .ref hd, .ref hen, .ref hnd])), (hen, .inl (cI, 6, .inl ed)), (hnd, .inl (cI, 16, .inl nd))] sz) := by
  refine Met.ofW (cc := b_Mo_key) (maxL := 1) (ret := (some .int)) (by decide) rfl ?_
  intro p e s m args below meth c s₁ B hml hv
  obtain ⟨rfl, hsz, hP, hKN, hD0⟩ := hv
  have hK := hKN.1
  have hx := B.exec
  have hb := B.bytes
  have hr := B.returns
  have hts := fun (w : Cond) (h : w ∈ gt) => atoms_spec (ws := w_Mo_key) B.pre w (List.mem_cons_of_mem _ h)
  have hown : s.vm.findClass R_Mo = some m.cls := findClass_of_methodNamed B.named
  have hlocks := B.notSynchronized
  subst hsz
  have hD := hD0.self (sz := s.heap.size)
  generalize hAe : va_A [(hm, .inr (3, [.int sc, .ref hw, .int (nI cn), .int (nI fu), .int lf, .int (bI dd), .int dn, .int rn, .int (bI tr), .int (nI lg), .ref he, .int me, .ref hd, .ref hen, .ref hnd])), (hen, .inl (cI, 6, .inl ed)), (hnd, .inl (cI, 16, .inl nd))] s.heap.size = A at hD ⊢
  have hA : ∀ q : Nat, s.heap.size ≤ q → A q := fun q h => by rw [← hAe]; exact Or.inr h
  have hS : va_S A s.heap s.heap [] := va_S.rf
  have hP : va_P (dC, dI) classes [(hm, .inr (3, [.int sc, .ref hw, .int (nI cn), .int (nI fu), .int lf, .int (bI dd), .int dn, .int rn, .int (bI tr), .int (nI lg), .ref he, .int me, .ref hd, .ref hen, .ref hnd])), (hen, .inl (cI, 6, .inl ed)), (hnd, .inl (cI, 16, .inl nd))] s.heap := hP
  clear hAe hD0
  have hl := lv_entry ([.ref hm]) (n := 1) (Nat.le_of_ble_eq_true rfl)
  rw [lg_entry_eq]
  generalize (lg_sl ([.ref hm]) ++ List.replicate (1 - (lg_sl ([.ref hm])).length) Slot.unset).toArray = ls at hl ⊢
  have hl : lv_has ls 1 [(0, .ref hm)] := hl
  refine lv_aload_n hx hb d_Mo_key_0 rfl (lv_at hl 0 rfl) ?_
  have hPc := hP.sub (ws' := [(hm, .inr (3, [.int sc, .ref hw, .int (nI cn), .int (nI fu), .int lf, .int (bI dd), .int dn, .int rn, .int (bI tr), .int (nI lg), .ref he, .int me, .ref hd, .ref hen, .ref hnd])), (hen, .inl (cI, 6, .inl ed)), (hnd, .inl (cI, 16, .inl nd))]) [0, 1, 2] rfl
  have hDc := hD.sub (ws' := [(hm, .inr (3, [.int sc, .ref hw, .int (nI cn), .int (nI fu), .int lf, .int (bI dd), .int dn, .int rn, .int (bI tr), .int (nI lg), .ref he, .int me, .ref hd, .ref hen, .ref hnd])), (hen, .inl (cI, 6, .inl ed)), (hnd, .inl (cI, 16, .inl nd))]) [0, 1, 2] (by decide) rfl
  have hFc := va_free (wc := [(hm, .inr (3, [.int sc, .ref hw, .int (nI cn), .int (nI fu), .int lf, .int (bI dd), .int dn, .int rn, .int (bI tr), .int (nI lg), .ref he, .int me, .ref hd, .ref hen, .ref hnd])), (hen, .inl (cI, 6, .inl ed)), (hnd, .inl (cI, 16, .inl nd))]) hD hS hA [0, 1, 2] rfl
  refine va_callv (va_runV (As := []) (rest := []) ⟨hx, hb, hml, hown, hts⟩ (c_Mo_tree l dC dI cI (hm := hm) (sc := sc) (hw := hw) (cn := cn) (fu := fu) (lf := lf) (dd := dd) (dn := dn) (rn := rn) (tr := tr) (lg := lg) (he := he) (me := me) (hd := hd) (hen := hen) (hnd := hnd) (ed := ed) (nd := nd)  (sz := s.heap.size)) ⟨callB_of 0 hts (gd kw_428) rfl rfl rfl (hts _ kw_41) (hts _ kw_425) (by decide +kernel) ⟨Nat.le_of_ble_eq_true rfl, Nat.le_of_ble_eq_true rfl⟩, (hts _ kw_427), (hts _ kw_20)⟩ ⟨fun a U g mk q => by obtain ⟨q0, q1, qP, qK, qD⟩ := q; exact ⟨q0, q1, qP, qK.call, qD⟩, va_recv hK hP (ci := 3) rfl (q0 := 0) rfl, fun U hU hW => ⟨rfl, by rw [hU], by rw [hU]; exact hPc, hKN.warm hW, hDc.weaken (fun _ _ _ _ => trivial)⟩⟩ rfl rfl hl.1 rfl (lv_room (Nat.le_of_ble_eq_true rfl)) d_Mo_key_1 ⟨Nat.zero_le _, Nat.zero_le _⟩) hS (fun q _ h => hFc q h) hFc (fun u t H1 locs zt zvm zw zB zz zk hS => ?_)
  obtain ⟨ed_1, nd_1⟩ := u
  have hu_1 := zw
  obtain ⟨hP1, hD1⟩ := zB
  rw [zt] at hP1
  have hP1 : va_P (dC, dI) classes [(hm, .inr (3, [.int sc, .ref hw, .int (nI cn), .int (nI fu), .int lf, .int (bI dd), .int dn, .int rn, .int (bI tr), .int (nI lg), .ref he, .int me, .ref hd, .ref hen, .ref hnd])), (hen, .inl (cI, 6, .inl ed_1)), (hnd, .inl (cI, 16, .inl nd_1))] H1 := hP1
  obtain ⟨hP, hD⟩ := va_join (wc := [(hm, .inr (3, [.int sc, .ref hw, .int (nI cn), .int (nI fu), .int lf, .int (bI dd), .int dn, .int rn, .int (bI tr), .int (nI lg), .ref he, .int me, .ref hd, .ref hen, .ref hnd])), (hen, .inl (cI, 6, .inl ed)), (hnd, .inl (cI, 16, .inl nd))]) (wr := []) (w1 := [(hm, .inr (3, [.int sc, .ref hw, .int (nI cn), .int (nI fu), .int lf, .int (bI dd), .int dn, .int rn, .int (bI tr), .int (nI lg), .ref he, .int me, .ref hd, .ref hen, .ref hnd])), (hen, .inl (cI, 6, .inl ed_1)), (hnd, .inl (cI, 16, .inl nd_1))]) hP hD [0, 1, 2] [] rfl rfl (by decide) (by decide) zk hFc hP1 hD1
  generalize H1 = H at hP hS ⊢
  have hP : va_P (dC, dI) classes [(hm, .inr (3, [.int sc, .ref hw, .int (nI cn), .int (nI fu), .int lf, .int (bI dd), .int dn, .int rn, .int (bI tr), .int (nI lg), .ref he, .int me, .ref hd, .ref hen, .ref hnd])), (hen, .inl (cI, 6, .inl ed_1)), (hnd, .inl (cI, 16, .inl nd_1))] H := hP.sub [0, 1, 2] rfl
  have hD : va_D A [(hm, .inr (3, [.int sc, .ref hw, .int (nI cn), .int (nI fu), .int lf, .int (bI dd), .int dn, .int rn, .int (bI tr), .int (nI lg), .ref he, .int me, .ref hd, .ref hen, .ref hnd])), (hen, .inl (cI, 6, .inl ed_1)), (hnd, .inl (cI, 16, .inl nd_1))] := hD.sub [0, 1, 2] (by decide) rfl
  clear hPc hDc hFc hP1 hD1 zk zz zvm zt
  refine lv_aload_n hx hb d_Mo_key_4 rfl (lv_at hl 0 rfl) ?_
  refine va_get (D := (dC, dI)) (ci := 3) (v := .ref hnd) (C := R_Mo) (T := F_Mo) (N := 15) hx hb hts in_Mo hown hK hP 0 rfl rfl 14 (by decide) (hts _ kw_453) (fun _ h9 => h9) rfl d_Mo_key_5 ?_
  refine lv_iconst (v := (nI 1)) hx hb d_Mo_key_8 (by decide) ?_
  refine ar_ld (k := 1) hx hb hK hP 2 0 rfl rfl (by omega) (by first | decide | omega) d_Mo_key_9 ?_
  exact W.iret (v := (nd_1 1)) hx hb hr (fun t ht hW => ⟨⟨(nd_1 1), (ed_1, nd_1), rfl, (by rw [keyS, hu_1]), by rw [ht]; exact hP, hD⟩, hS.F ht⟩) hS.2.2 d_Mo_key_10
set_option maxHeartbeats 4000000 in
set_option maxRecDepth 100000 in
theorem c_Mo_digits (l : Launch) (dC : Nat → ClassId) (dI : Nat → Nat → Nat) (cI : ClassId) (hm : Nat) (b : Nat) (sc : Int32) (hw : Nat) (cn : Nat) (fu : Nat) (lf : Int32) (dd : Bool) (dn : Int32) (rn : Int32) (tr : Bool) (lg : Nat) (he : Nat) (me : Int32) (hd : Nat) (hen : Nat) (hnd : Nat) (M : Nat → Int32) (dg : Nat → Int32) (hb160 : b + 17 ≤ 160) (sz : Nat) : Met l y_Mo_digits w_Mo_digits ({ frames := 1, cells := 0, slots := 0, locals := 22 }) (va_Pc [.ref hm, .int (nI b)] (fun U => U.heap.size = sz ∧ va_P (dC, dI) classes [(hm, .inr (3, [.int sc, .ref hw, .int (nI cn), .int (nI fu), .int lf, .int (bI dd), .int dn, .int rn, .int (bI tr), .int (nI lg), .ref he, .int me, .ref hd, .ref hen, .ref hnd])), (hw, .inl (cI, 160, .inl M)), (hd, .inl (cI, 6, .inl dg))] U.heap ∧ KN dC dI cI U ∧ va_D (fun _ => True) [(hm, .inr (3, [.int sc, .ref hw, .int (nI cn), .int (nI fu), .int lf, .int (bI dd), .int dn, .int rn, .int (bI tr), .int (nI lg), .ref he, .int me, .ref hd, .ref hen, .ref hnd])), (hw, .inl (cI, 160, .inl M)), (hd, .inl (cI, 6, .inl dg))])) (va_Qv (fun u : (Nat → Int32) => digs (ms4 (fun i => M (b + i))) dg = u) (fun (u : (Nat → Int32)) t => va_P (dC, dI) classes [(hm, .inr (3, [.int sc, .ref hw, .int (nI cn), .int (nI fu), .int lf, .int (bI dd), .int dn, .int rn, .int (bI tr), .int (nI lg), .ref he, .int me, .ref hd, .ref hen, .ref hnd])), (hw, .inl (cI, 160, .inl M)), (hd, .inl (cI, 6, .inl u))] t.heap ∧ va_D (va_A [(hm, .inr (3, [.int sc, .ref hw, .int (nI cn), .int (nI fu), .int lf, .int (bI dd), .int dn, .int rn, .int (bI tr), .int (nI lg), .ref he, .int me, .ref hd, .ref hen, .ref hnd])), (hw, .inl (cI, 160, .inl M)), (hd, .inl (cI, 6, .inl dg))] sz) [(hm, .inr (3, [.int sc, .ref hw, .int (nI cn), .int (nI fu), .int lf, .int (bI dd), .int dn, .int rn, .int (bI tr), .int (nI lg), .ref he, .int me, .ref hd, .ref hen, .ref hnd])), (hw, .inl (cI, 160, .inl M)), (hd, .inl (cI, 6, .inl u))]) (va_A [(hm, .inr (3, [.int sc, .ref hw, .int (nI cn), .int (nI fu), .int lf, .int (bI dd), .int dn, .int rn, .int (bI tr), .int (nI lg), .ref he, .int me, .ref hd, .ref hen, .ref hnd])), (hw, .inl (cI, 160, .inl M)), (hd, .inl (cI, 6, .inl dg))] sz)) 0 0 (va_A [(hm, .inr (3, [.int sc, .ref hw, .int (nI cn), .int (nI fu), .int lf, .int (bI dd), .int dn, .int rn, .int (bI tr), .int (nI lg), .ref he, .int me, .ref hd, .ref hen, .ref hnd])), (hw, .inl (cI, 160, .inl M)), (hd, .inl (cI, 6, .inl dg))] sz) := by
  refine Met.ofW (cc := b_Mo_digits) (maxL := 5) (ret := none) (by decide) rfl ?_
  intro p e s m args below meth c s₁ B hml hv
  obtain ⟨rfl, hsz, hP, hKN, hD0⟩ := hv
  have hK := hKN.1
  have hx := B.exec
  have hb := B.bytes
  have hr := B.returns
  have hts := fun (w : Cond) (h : w ∈ gt) => atoms_spec (ws := w_Mo_digits) B.pre w (List.mem_cons_of_mem _ h)
  have hown : s.vm.findClass R_Mo = some m.cls := findClass_of_methodNamed B.named
  have hlocks := B.notSynchronized
  subst hsz
  have hD := hD0.self (sz := s.heap.size)
  generalize hAe : va_A [(hm, .inr (3, [.int sc, .ref hw, .int (nI cn), .int (nI fu), .int lf, .int (bI dd), .int dn, .int rn, .int (bI tr), .int (nI lg), .ref he, .int me, .ref hd, .ref hen, .ref hnd])), (hw, .inl (cI, 160, .inl M)), (hd, .inl (cI, 6, .inl dg))] s.heap.size = A at hD ⊢
  have hA : ∀ q : Nat, s.heap.size ≤ q → A q := fun q h => by rw [← hAe]; exact Or.inr h
  have hS : va_S A s.heap s.heap [] := va_S.rf
  have hP : va_P (dC, dI) classes [(hm, .inr (3, [.int sc, .ref hw, .int (nI cn), .int (nI fu), .int lf, .int (bI dd), .int dn, .int rn, .int (bI tr), .int (nI lg), .ref he, .int me, .ref hd, .ref hen, .ref hnd])), (hw, .inl (cI, 160, .inl M)), (hd, .inl (cI, 6, .inl dg))] s.heap := hP
  clear hAe hD0
  have hl := lv_entry ([.ref hm, .int (nI b)]) (n := 5) (Nat.le_of_ble_eq_true rfl)
  rw [lg_entry_eq]
  generalize (lg_sl ([.ref hm, .int (nI b)]) ++ List.replicate (5 - (lg_sl ([.ref hm, .int (nI b)])).length) Slot.unset).toArray = ls at hl ⊢
  have hl : lv_has ls 5 [(0, .ref hm), (1, .int (nI b))] := hl
  refine lv_bipush (v := (nI 17)) hx hb d_Mo_digits_0 (by decide) ?_
  refine lv_istore_n (lv' := [(2, .int (nI 17)), (0, .ref hm), (1, .int (nI b))]) hx hb d_Mo_digits_2 rfl hl (by decide) rfl (fun ls hl => ?_)
  refine lv_iconst (v := (nI 0)) hx hb d_Mo_digits_3 (by decide) ?_
  refine lv_istore_n (lv' := [(3, .int (nI 0)), (2, .int (nI 17)), (0, .ref hm), (1, .int (nI b))]) hx hb d_Mo_digits_4 rfl hl (by decide) rfl (fun ls hl => ?_)
  refine lv_iload_n hx hb d_Mo_digits_5 rfl (lv_at hl 0 rfl) ?_
  refine lv_iconst (v := (nI 4)) hx hb d_Mo_digits_6 (by decide) ?_
  refine nb_ge (tgt := 29) hx hb d_Mo_digits_7 (by decide) (by decide) (by decide) (fun h_1 => ?_) (fun h_1 => ?_)
  · exact absurd h_1 (by decide)
  · refine lv_iload_n hx hb d_Mo_digits_10 rfl (lv_at hl 1 rfl) ?_
    refine lv_aload_n hx hb d_Mo_digits_11 rfl (lv_at hl 2 rfl) ?_
    refine va_get (D := (dC, dI)) (ci := 3) (v := .ref hw) (C := R_Mo) (T := F_Mo) (N := 15) hx hb hts in_Mo hown hK hP 0 rfl rfl 1 (by decide) (hts _ kw_440) (fun _ h9 => h9) rfl d_Mo_digits_12 ?_
    refine lv_iload_n hx hb d_Mo_digits_15 rfl (lv_at hl 3 rfl) ?_
    refine lv_iload_n hx hb d_Mo_digits_16 rfl (lv_at hl 0 rfl) ?_
    refine lv_iadd hx hb d_Mo_digits_17 ?_
    refine tp (y := (nI b)) (nI_add _ _) ?_
    refine ar_ld (k := b) hx hb hK hP 1 0 rfl rfl (by omega) (by first | decide | omega) d_Mo_digits_18 ?_
    refine pr_call (va_runS (As := [.int (nI 17), .int (M b)]) (rest := []) ⟨hx, hb, hml, hown, hts⟩ (c_Mo_h l dC dI cI (a := (nI 17)) (b := M b) ) ⟨callB_of 2 hts (gd kw_411) rfl rfl rfl (hts _ kw_41) (hts _ kw_409) (by decide +kernel) ⟨Nat.le_of_ble_eq_true rfl, Nat.le_of_ble_eq_true rfl⟩, (hts _ kw_410)⟩ ⟨fun a U g mk q => by obtain ⟨q0, qP, qK⟩ := q; exact ⟨q0, qP, qK.call⟩, fun U hU hW => ⟨rfl, by rw [hU]; exact hP.sub [] rfl, hKN.warm hW⟩⟩ rfl rfl hl.1 rfl (lv_room (Nat.le_of_ble_eq_true rfl)) d_Mo_digits_19 ⟨Nat.zero_le _, Nat.zero_le _⟩) ?_
    refine lv_istore_n (lv' := [(2, .int (hh (nI 17) (M b))), (3, .int (nI 0)), (0, .ref hm), (1, .int (nI b))]) hx hb d_Mo_digits_22 rfl hl (by decide) rfl (fun ls hl => ?_)
    refine lv_iinc (k := 1) (v := (nI 1)) (lv' := [(3, .int (nI 1)), (2, .int (hh (nI 17) (M b))), (0, .ref hm), (1, .int (nI b))]) hx hb d_Mo_digits_23 hl rfl (by decide) (by decide) rfl (fun ls hl => ?_)
    refine lv_goto (tgt := 5) hx hb d_Mo_digits_26 (by decide) ?_
    refine lv_iload_n hx hb d_Mo_digits_5 rfl (lv_at hl 0 rfl) ?_
    refine lv_iconst (v := (nI 4)) hx hb d_Mo_digits_6 (by decide) ?_
    refine nb_ge (tgt := 29) hx hb d_Mo_digits_7 (by decide) (by decide) (by decide) (fun h_2 => ?_) (fun h_2 => ?_)
    · exact absurd h_2 (by decide)
    · refine lv_iload_n hx hb d_Mo_digits_10 rfl (lv_at hl 1 rfl) ?_
      refine lv_aload_n hx hb d_Mo_digits_11 rfl (lv_at hl 2 rfl) ?_
      refine va_get (D := (dC, dI)) (ci := 3) (v := .ref hw) (C := R_Mo) (T := F_Mo) (N := 15) hx hb hts in_Mo hown hK hP 0 rfl rfl 1 (by decide) (hts _ kw_440) (fun _ h9 => h9) rfl d_Mo_digits_12 ?_
      refine lv_iload_n hx hb d_Mo_digits_15 rfl (lv_at hl 3 rfl) ?_
      refine lv_iload_n hx hb d_Mo_digits_16 rfl (lv_at hl 0 rfl) ?_
      refine lv_iadd hx hb d_Mo_digits_17 ?_
      refine tp (nI_add _ _) ?_
      refine ar_ld (k := b + 1) hx hb hK hP 1 0 rfl rfl (by omega) (by first | decide | omega) d_Mo_digits_18 ?_
      refine pr_call (va_runS (As := [.int (hh (nI 17) (M b)), .int (M (b + 1))]) (rest := []) ⟨hx, hb, hml, hown, hts⟩ (c_Mo_h l dC dI cI (a := hh (nI 17) (M b)) (b := M (b + 1)) ) ⟨callB_of 2 hts (gd kw_411) rfl rfl rfl (hts _ kw_41) (hts _ kw_409) (by decide +kernel) ⟨Nat.le_of_ble_eq_true rfl, Nat.le_of_ble_eq_true rfl⟩, (hts _ kw_410)⟩ ⟨fun a U g mk q => by obtain ⟨q0, qP, qK⟩ := q; exact ⟨q0, qP, qK.call⟩, fun U hU hW => ⟨rfl, by rw [hU]; exact hP.sub [] rfl, hKN.warm hW⟩⟩ rfl rfl hl.1 rfl (lv_room (Nat.le_of_ble_eq_true rfl)) d_Mo_digits_19 ⟨Nat.zero_le _, Nat.zero_le _⟩) ?_
      refine lv_istore_n (lv' := [(2, .int (hh (hh (nI 17) (M b)) (M (b + 1)))), (3, .int (nI 1)), (0, .ref hm), (1, .int (nI b))]) hx hb d_Mo_digits_22 rfl hl (by decide) rfl (fun ls hl => ?_)
      refine lv_iinc (k := 1) (v := (nI 2)) (lv' := [(3, .int (nI 2)), (2, .int (hh (hh (nI 17) (M b)) (M (b + 1)))), (0, .ref hm), (1, .int (nI b))]) hx hb d_Mo_digits_23 hl rfl (by decide) (by decide) rfl (fun ls hl => ?_)
      refine lv_goto (tgt := 5) hx hb d_Mo_digits_26 (by decide) ?_
      refine lv_iload_n hx hb d_Mo_digits_5 rfl (lv_at hl 0 rfl) ?_
      refine lv_iconst (v := (nI 4)) hx hb d_Mo_digits_6 (by decide) ?_
      refine nb_ge (tgt := 29) hx hb d_Mo_digits_7 (by decide) (by decide) (by decide) (fun h_3 => ?_) (fun h_3 => ?_)
      · exact absurd h_3 (by decide)
      · refine lv_iload_n hx hb d_Mo_digits_10 rfl (lv_at hl 1 rfl) ?_
        refine lv_aload_n hx hb d_Mo_digits_11 rfl (lv_at hl 2 rfl) ?_
        refine va_get (D := (dC, dI)) (ci := 3) (v := .ref hw) (C := R_Mo) (T := F_Mo) (N := 15) hx hb hts in_Mo hown hK hP 0 rfl rfl 1 (by decide) (hts _ kw_440) (fun _ h9 => h9) rfl d_Mo_digits_12 ?_
        refine lv_iload_n hx hb d_Mo_digits_15 rfl (lv_at hl 3 rfl) ?_
        refine lv_iload_n hx hb d_Mo_digits_16 rfl (lv_at hl 0 rfl) ?_
        refine lv_iadd hx hb d_Mo_digits_17 ?_
        refine tp (nI_add _ _) ?_
        refine ar_ld (k := b + 2) hx hb hK hP 1 0 rfl rfl (by omega) (by first | decide | omega) d_Mo_digits_18 ?_
        refine pr_call (va_runS (As := [.int (hh (hh (nI 17) (M b)) (M (b + 1))), .int (M (b + 2))]) (rest := []) ⟨hx, hb, hml, hown, hts⟩ (c_Mo_h l dC dI cI (a := hh (hh (nI 17) (M b)) (M (b + 1))) (b := M (b + 2)) ) ⟨callB_of 2 hts (gd kw_411) rfl rfl rfl (hts _ kw_41) (hts _ kw_409) (by decide +kernel) ⟨Nat.le_of_ble_eq_true rfl, Nat.le_of_ble_eq_true rfl⟩, (hts _ kw_410)⟩ ⟨fun a U g mk q => by obtain ⟨q0, qP, qK⟩ := q; exact ⟨q0, qP, qK.call⟩, fun U hU hW => ⟨rfl, by rw [hU]; exact hP.sub [] rfl, hKN.warm hW⟩⟩ rfl rfl hl.1 rfl (lv_room (Nat.le_of_ble_eq_true rfl)) d_Mo_digits_19 ⟨Nat.zero_le _, Nat.zero_le _⟩) ?_
        refine lv_istore_n (lv' := [(2, .int (hh (hh (hh (nI 17) (M b)) (M (b + 1))) (M (b + 2)))), (3, .int (nI 2)), (0, .ref hm), (1, .int (nI b))]) hx hb d_Mo_digits_22 rfl hl (by decide) rfl (fun ls hl => ?_)
        refine lv_iinc (k := 1) (v := (nI 3)) (lv' := [(3, .int (nI 3)), (2, .int (hh (hh (hh (nI 17) (M b)) (M (b + 1))) (M (b + 2)))), (0, .ref hm), (1, .int (nI b))]) hx hb d_Mo_digits_23 hl rfl (by decide) (by decide) rfl (fun ls hl => ?_)
        refine lv_goto (tgt := 5) hx hb d_Mo_digits_26 (by decide) ?_
        refine lv_iload_n hx hb d_Mo_digits_5 rfl (lv_at hl 0 rfl) ?_
        refine lv_iconst (v := (nI 4)) hx hb d_Mo_digits_6 (by decide) ?_
        refine nb_ge (tgt := 29) hx hb d_Mo_digits_7 (by decide) (by decide) (by decide) (fun h_4 => ?_) (fun h_4 => ?_)
        · exact absurd h_4 (by decide)
        · refine lv_iload_n hx hb d_Mo_digits_10 rfl (lv_at hl 1 rfl) ?_
          refine lv_aload_n hx hb d_Mo_digits_11 rfl (lv_at hl 2 rfl) ?_
          refine va_get (D := (dC, dI)) (ci := 3) (v := .ref hw) (C := R_Mo) (T := F_Mo) (N := 15) hx hb hts in_Mo hown hK hP 0 rfl rfl 1 (by decide) (hts _ kw_440) (fun _ h9 => h9) rfl d_Mo_digits_12 ?_
          refine lv_iload_n hx hb d_Mo_digits_15 rfl (lv_at hl 3 rfl) ?_
          refine lv_iload_n hx hb d_Mo_digits_16 rfl (lv_at hl 0 rfl) ?_
          refine lv_iadd hx hb d_Mo_digits_17 ?_
          refine tp (nI_add _ _) ?_
          refine ar_ld (k := b + 3) hx hb hK hP 1 0 rfl rfl (by omega) (by first | decide | omega) d_Mo_digits_18 ?_
          refine pr_call (va_runS (As := [.int (hh (hh (hh (nI 17) (M b)) (M (b + 1))) (M (b + 2))), .int (M (b + 3))]) (rest := []) ⟨hx, hb, hml, hown, hts⟩ (c_Mo_h l dC dI cI (a := hh (hh (hh (nI 17) (M b)) (M (b + 1))) (M (b + 2))) (b := M (b + 3)) ) ⟨callB_of 2 hts (gd kw_411) rfl rfl rfl (hts _ kw_41) (hts _ kw_409) (by decide +kernel) ⟨Nat.le_of_ble_eq_true rfl, Nat.le_of_ble_eq_true rfl⟩, (hts _ kw_410)⟩ ⟨fun a U g mk q => by obtain ⟨q0, qP, qK⟩ := q; exact ⟨q0, qP, qK.call⟩, fun U hU hW => ⟨rfl, by rw [hU]; exact hP.sub [] rfl, hKN.warm hW⟩⟩ rfl rfl hl.1 rfl (lv_room (Nat.le_of_ble_eq_true rfl)) d_Mo_digits_19 ⟨Nat.zero_le _, Nat.zero_le _⟩) ?_
          refine lv_istore_n (lv' := [(2, .int (hh (hh (hh (hh (nI 17) (M b)) (M (b + 1))) (M (b + 2))) (M (b + 3)))), (3, .int (nI 3)), (0, .ref hm), (1, .int (nI b))]) hx hb d_Mo_digits_22 rfl hl (by decide) rfl (fun ls hl => ?_)
          refine lv_iinc (k := 1) (v := (nI 4)) (lv' := [(3, .int (nI 4)), (2, .int (hh (hh (hh (hh (nI 17) (M b)) (M (b + 1))) (M (b + 2))) (M (b + 3)))), (0, .ref hm), (1, .int (nI b))]) hx hb d_Mo_digits_23 hl rfl (by decide) (by decide) rfl (fun ls hl => ?_)
          refine lv_goto (tgt := 5) hx hb d_Mo_digits_26 (by decide) ?_
          refine lv_iload_n hx hb d_Mo_digits_5 rfl (lv_at hl 0 rfl) ?_
          refine lv_iconst (v := (nI 4)) hx hb d_Mo_digits_6 (by decide) ?_
          refine nb_ge (tgt := 29) hx hb d_Mo_digits_7 (by decide) (by decide) (by decide) (fun h_5 => ?_) (fun h_5 => ?_)
          · refine lv_bipush (v := (nI 60)) hx hb d_Mo_digits_29 (by decide) ?_
            refine lv_istore_n (lv' := [(3, .int (nI 60)), (2, .int (hh (hh (hh (hh (nI 17) (M b)) (M (b + 1))) (M (b + 2))) (M (b + 3)))), (0, .ref hm), (1, .int (nI b))]) hx hb d_Mo_digits_31 rfl hl (by decide) rfl (fun ls hl => ?_)
            refine lv_iconst (v := (nI 0)) hx hb d_Mo_digits_32 (by decide) ?_
            refine lv_istore (lv' := [(4, .int (nI 0)), (3, .int (nI 60)), (2, .int (hh (hh (hh (hh (nI 17) (M b)) (M (b + 1))) (M (b + 2))) (M (b + 3)))), (0, .ref hm), (1, .int (nI b))]) hx hb d_Mo_digits_33 hl (by decide) rfl (fun ls hl => ?_)
            refine lv_iload hx hb d_Mo_digits_35 (lv_at hl 0 rfl) ?_
            refine lv_iconst (v := (nI 4)) hx hb d_Mo_digits_37 (by decide) ?_
            refine nb_ge (tgt := 73) hx hb d_Mo_digits_38 (by decide) (by decide) (by decide) (fun h_6 => ?_) (fun h_6 => ?_)
            · exact absurd h_6 (by decide)
            · refine lv_aload_n hx hb d_Mo_digits_41 rfl (lv_at hl 3 rfl) ?_
              refine va_get (D := (dC, dI)) (ci := 3) (v := .ref hd) (C := R_Mo) (T := F_Mo) (N := 15) hx hb hts in_Mo hown hK hP 0 rfl rfl 12 (by decide) (hts _ kw_451) (fun _ h9 => h9) rfl d_Mo_digits_42 ?_
              refine lv_iload hx hb d_Mo_digits_45 (lv_at hl 0 rfl) ?_
              refine lv_iload_n hx hb d_Mo_digits_47 rfl (lv_at hl 2 rfl) ?_
              refine lv_iconst (v := (nI 4)) hx hb d_Mo_digits_48 (by decide) ?_
              refine lv_iload hx hb d_Mo_digits_49 (lv_at hl 0 rfl) ?_
              refine lv_imul hx hb d_Mo_digits_51 ?_
              refine tp (y := (nI 0)) (by decide) ?_
              refine lv_iushr (v := ush (hh (hh (hh (hh (nI 17) (M b)) (M (b + 1))) (M (b + 2))) (M (b + 3))) (nI 0)) hx hb d_Mo_digits_52 rfl ?_
              refine lv_bipush (v := (nI 15)) hx hb d_Mo_digits_53 (by decide) ?_
              refine lv_iand hx hb d_Mo_digits_55 ?_
              have g0 := nb4_lt (hh (hh (hh (hh (nI 17) (M b)) (M (b + 1))) (M (b + 2))) (M (b + 3))) 0
              refine tp (nb4_eq (hh (hh (hh (hh (nI 17) (M b)) (M (b + 1))) (M (b + 2))) (M (b + 3))) 0) ?_
              refine ar_st (k := 0) hx hb hK hP hD hS 2 0 rfl rfl (by omega) (by first | decide | omega) d_Mo_digits_56 (fun H locs hP hD hS => ?_)
              have hP : va_P (dC, dI) classes [(hm, .inr (3, [.int sc, .ref hw, .int (nI cn), .int (nI fu), .int lf, .int (bI dd), .int dn, .int rn, .int (bI tr), .int (nI lg), .ref he, .int me, .ref hd, .ref hen, .ref hnd])), (hw, .inl (cI, 160, .inl M)), (hd, .inl (cI, 6, .inl (upd dg 0 (nI (nb4 (hh (hh (hh (hh (nI 17) (M b)) (M (b + 1))) (M (b + 2))) (M (b + 3))) 0)))))] H := hP
              have hD : va_D A [(hm, .inr (3, [.int sc, .ref hw, .int (nI cn), .int (nI fu), .int lf, .int (bI dd), .int dn, .int rn, .int (bI tr), .int (nI lg), .ref he, .int me, .ref hd, .ref hen, .ref hnd])), (hw, .inl (cI, 160, .inl M)), (hd, .inl (cI, 6, .inl (upd dg 0 (nI (nb4 (hh (hh (hh (hh (nI 17) (M b)) (M (b + 1))) (M (b + 2))) (M (b + 3))) 0)))))] := hD
              refine lv_iload_n hx hb d_Mo_digits_57 rfl (lv_at hl 1 rfl) ?_
              refine lv_aload_n hx hb d_Mo_digits_58 rfl (lv_at hl 3 rfl) ?_
              refine va_get (D := (dC, dI)) (ci := 3) (v := .ref hd) (C := R_Mo) (T := F_Mo) (N := 15) hx hb hts in_Mo hown hK hP 0 rfl rfl 12 (by decide) (hts _ kw_451) (fun _ h9 => h9) rfl d_Mo_digits_59 ?_
              refine lv_iload hx hb d_Mo_digits_62 (lv_at hl 0 rfl) ?_
              refine ar_ld (k := 0) hx hb hK hP 2 0 rfl rfl (by omega) (by first | decide | omega) d_Mo_digits_64 ?_
              refine tp (pk_us) ?_
              refine lv_isub hx hb d_Mo_digits_65 ?_
              refine tp (pk_sub (by omega)) ?_
              refine lv_istore_n (lv' := [(3, .int (nI (60 - (nb4 (hh (hh (hh (hh (nI 17) (M b)) (M (b + 1))) (M (b + 2))) (M (b + 3))) 0)))), (4, .int (nI 0)), (2, .int (hh (hh (hh (hh (nI 17) (M b)) (M (b + 1))) (M (b + 2))) (M (b + 3)))), (0, .ref hm), (1, .int (nI b))]) hx hb d_Mo_digits_66 rfl hl (by decide) rfl (fun ls hl => ?_)
              refine lv_iinc (k := 1) (v := (nI 1)) (lv' := [(4, .int (nI 1)), (3, .int (nI (60 - (nb4 (hh (hh (hh (hh (nI 17) (M b)) (M (b + 1))) (M (b + 2))) (M (b + 3))) 0)))), (2, .int (hh (hh (hh (hh (nI 17) (M b)) (M (b + 1))) (M (b + 2))) (M (b + 3)))), (0, .ref hm), (1, .int (nI b))]) hx hb d_Mo_digits_67 hl rfl (by decide) (by decide) rfl (fun ls hl => ?_)
              refine lv_goto (tgt := 35) hx hb d_Mo_digits_70 (by decide) ?_
              refine lv_iload hx hb d_Mo_digits_35 (lv_at hl 0 rfl) ?_
              refine lv_iconst (v := (nI 4)) hx hb d_Mo_digits_37 (by decide) ?_
              refine nb_ge (tgt := 73) hx hb d_Mo_digits_38 (by decide) (by decide) (by decide) (fun h_7 => ?_) (fun h_7 => ?_)
              · exact absurd h_7 (by decide)
              · refine lv_aload_n hx hb d_Mo_digits_41 rfl (lv_at hl 3 rfl) ?_
                refine va_get (D := (dC, dI)) (ci := 3) (v := .ref hd) (C := R_Mo) (T := F_Mo) (N := 15) hx hb hts in_Mo hown hK hP 0 rfl rfl 12 (by decide) (hts _ kw_451) (fun _ h9 => h9) rfl d_Mo_digits_42 ?_
                refine lv_iload hx hb d_Mo_digits_45 (lv_at hl 0 rfl) ?_
                refine lv_iload_n hx hb d_Mo_digits_47 rfl (lv_at hl 2 rfl) ?_
                refine lv_iconst (v := (nI 4)) hx hb d_Mo_digits_48 (by decide) ?_
                refine lv_iload hx hb d_Mo_digits_49 (lv_at hl 0 rfl) ?_
                refine lv_imul hx hb d_Mo_digits_51 ?_
                refine tp (y := (nI 4)) (by decide) ?_
                refine lv_iushr (v := ush (hh (hh (hh (hh (nI 17) (M b)) (M (b + 1))) (M (b + 2))) (M (b + 3))) (nI 4)) hx hb d_Mo_digits_52 rfl ?_
                refine lv_bipush (v := (nI 15)) hx hb d_Mo_digits_53 (by decide) ?_
                refine lv_iand hx hb d_Mo_digits_55 ?_
                have g1 := nb4_lt (hh (hh (hh (hh (nI 17) (M b)) (M (b + 1))) (M (b + 2))) (M (b + 3))) 1
                refine tp (nb4_eq (hh (hh (hh (hh (nI 17) (M b)) (M (b + 1))) (M (b + 2))) (M (b + 3))) 1) ?_
                refine ar_st (k := 1) hx hb hK hP hD hS 2 0 rfl rfl (by omega) (by first | decide | omega) d_Mo_digits_56 (fun H locs hP hD hS => ?_)
                have hP : va_P (dC, dI) classes [(hm, .inr (3, [.int sc, .ref hw, .int (nI cn), .int (nI fu), .int lf, .int (bI dd), .int dn, .int rn, .int (bI tr), .int (nI lg), .ref he, .int me, .ref hd, .ref hen, .ref hnd])), (hw, .inl (cI, 160, .inl M)), (hd, .inl (cI, 6, .inl (upd (upd dg 0 (nI (nb4 (hh (hh (hh (hh (nI 17) (M b)) (M (b + 1))) (M (b + 2))) (M (b + 3))) 0))) 1 (nI (nb4 (hh (hh (hh (hh (nI 17) (M b)) (M (b + 1))) (M (b + 2))) (M (b + 3))) 1)))))] H := hP
                have hD : va_D A [(hm, .inr (3, [.int sc, .ref hw, .int (nI cn), .int (nI fu), .int lf, .int (bI dd), .int dn, .int rn, .int (bI tr), .int (nI lg), .ref he, .int me, .ref hd, .ref hen, .ref hnd])), (hw, .inl (cI, 160, .inl M)), (hd, .inl (cI, 6, .inl (upd (upd dg 0 (nI (nb4 (hh (hh (hh (hh (nI 17) (M b)) (M (b + 1))) (M (b + 2))) (M (b + 3))) 0))) 1 (nI (nb4 (hh (hh (hh (hh (nI 17) (M b)) (M (b + 1))) (M (b + 2))) (M (b + 3))) 1)))))] := hD
                refine lv_iload_n hx hb d_Mo_digits_57 rfl (lv_at hl 1 rfl) ?_
                refine lv_aload_n hx hb d_Mo_digits_58 rfl (lv_at hl 3 rfl) ?_
                refine va_get (D := (dC, dI)) (ci := 3) (v := .ref hd) (C := R_Mo) (T := F_Mo) (N := 15) hx hb hts in_Mo hown hK hP 0 rfl rfl 12 (by decide) (hts _ kw_451) (fun _ h9 => h9) rfl d_Mo_digits_59 ?_
                refine lv_iload hx hb d_Mo_digits_62 (lv_at hl 0 rfl) ?_
                refine ar_ld (k := 1) hx hb hK hP 2 0 rfl rfl (by omega) (by first | decide | omega) d_Mo_digits_64 ?_
                refine tp (pk_us) ?_
                refine lv_isub hx hb d_Mo_digits_65 ?_
                refine tp (pk_sub (by omega)) ?_
                refine lv_istore_n (lv' := [(3, .int (nI ((60 - (nb4 (hh (hh (hh (hh (nI 17) (M b)) (M (b + 1))) (M (b + 2))) (M (b + 3))) 0)) - (nb4 (hh (hh (hh (hh (nI 17) (M b)) (M (b + 1))) (M (b + 2))) (M (b + 3))) 1)))), (4, .int (nI 1)), (2, .int (hh (hh (hh (hh (nI 17) (M b)) (M (b + 1))) (M (b + 2))) (M (b + 3)))), (0, .ref hm), (1, .int (nI b))]) hx hb d_Mo_digits_66 rfl hl (by decide) rfl (fun ls hl => ?_)
                refine lv_iinc (k := 1) (v := (nI 2)) (lv' := [(4, .int (nI 2)), (3, .int (nI ((60 - (nb4 (hh (hh (hh (hh (nI 17) (M b)) (M (b + 1))) (M (b + 2))) (M (b + 3))) 0)) - (nb4 (hh (hh (hh (hh (nI 17) (M b)) (M (b + 1))) (M (b + 2))) (M (b + 3))) 1)))), (2, .int (hh (hh (hh (hh (nI 17) (M b)) (M (b + 1))) (M (b + 2))) (M (b + 3)))), (0, .ref hm), (1, .int (nI b))]) hx hb d_Mo_digits_67 hl rfl (by decide) (by decide) rfl (fun ls hl => ?_)
                refine lv_goto (tgt := 35) hx hb d_Mo_digits_70 (by decide) ?_
                refine lv_iload hx hb d_Mo_digits_35 (lv_at hl 0 rfl) ?_
                refine lv_iconst (v := (nI 4)) hx hb d_Mo_digits_37 (by decide) ?_
                refine nb_ge (tgt := 73) hx hb d_Mo_digits_38 (by decide) (by decide) (by decide) (fun h_8 => ?_) (fun h_8 => ?_)
                · exact absurd h_8 (by decide)
                · refine lv_aload_n hx hb d_Mo_digits_41 rfl (lv_at hl 3 rfl) ?_
                  refine va_get (D := (dC, dI)) (ci := 3) (v := .ref hd) (C := R_Mo) (T := F_Mo) (N := 15) hx hb hts in_Mo hown hK hP 0 rfl rfl 12 (by decide) (hts _ kw_451) (fun _ h9 => h9) rfl d_Mo_digits_42 ?_
                  refine lv_iload hx hb d_Mo_digits_45 (lv_at hl 0 rfl) ?_
                  refine lv_iload_n hx hb d_Mo_digits_47 rfl (lv_at hl 2 rfl) ?_
                  refine lv_iconst (v := (nI 4)) hx hb d_Mo_digits_48 (by decide) ?_
                  refine lv_iload hx hb d_Mo_digits_49 (lv_at hl 0 rfl) ?_
                  refine lv_imul hx hb d_Mo_digits_51 ?_
                  refine tp (y := (nI 8)) (by decide) ?_
                  refine lv_iushr (v := ush (hh (hh (hh (hh (nI 17) (M b)) (M (b + 1))) (M (b + 2))) (M (b + 3))) (nI 8)) hx hb d_Mo_digits_52 rfl ?_
                  refine lv_bipush (v := (nI 15)) hx hb d_Mo_digits_53 (by decide) ?_
                  refine lv_iand hx hb d_Mo_digits_55 ?_
                  have g2 := nb4_lt (hh (hh (hh (hh (nI 17) (M b)) (M (b + 1))) (M (b + 2))) (M (b + 3))) 2
                  refine tp (nb4_eq (hh (hh (hh (hh (nI 17) (M b)) (M (b + 1))) (M (b + 2))) (M (b + 3))) 2) ?_
                  refine ar_st (k := 2) hx hb hK hP hD hS 2 0 rfl rfl (by omega) (by first | decide | omega) d_Mo_digits_56 (fun H locs hP hD hS => ?_)
                  have hP : va_P (dC, dI) classes [(hm, .inr (3, [.int sc, .ref hw, .int (nI cn), .int (nI fu), .int lf, .int (bI dd), .int dn, .int rn, .int (bI tr), .int (nI lg), .ref he, .int me, .ref hd, .ref hen, .ref hnd])), (hw, .inl (cI, 160, .inl M)), (hd, .inl (cI, 6, .inl (upd (upd (upd dg 0 (nI (nb4 (hh (hh (hh (hh (nI 17) (M b)) (M (b + 1))) (M (b + 2))) (M (b + 3))) 0))) 1 (nI (nb4 (hh (hh (hh (hh (nI 17) (M b)) (M (b + 1))) (M (b + 2))) (M (b + 3))) 1))) 2 (nI (nb4 (hh (hh (hh (hh (nI 17) (M b)) (M (b + 1))) (M (b + 2))) (M (b + 3))) 2)))))] H := hP
                  have hD : va_D A [(hm, .inr (3, [.int sc, .ref hw, .int (nI cn), .int (nI fu), .int lf, .int (bI dd), .int dn, .int rn, .int (bI tr), .int (nI lg), .ref he, .int me, .ref hd, .ref hen, .ref hnd])), (hw, .inl (cI, 160, .inl M)), (hd, .inl (cI, 6, .inl (upd (upd (upd dg 0 (nI (nb4 (hh (hh (hh (hh (nI 17) (M b)) (M (b + 1))) (M (b + 2))) (M (b + 3))) 0))) 1 (nI (nb4 (hh (hh (hh (hh (nI 17) (M b)) (M (b + 1))) (M (b + 2))) (M (b + 3))) 1))) 2 (nI (nb4 (hh (hh (hh (hh (nI 17) (M b)) (M (b + 1))) (M (b + 2))) (M (b + 3))) 2)))))] := hD
                  refine lv_iload_n hx hb d_Mo_digits_57 rfl (lv_at hl 1 rfl) ?_
                  refine lv_aload_n hx hb d_Mo_digits_58 rfl (lv_at hl 3 rfl) ?_
                  refine va_get (D := (dC, dI)) (ci := 3) (v := .ref hd) (C := R_Mo) (T := F_Mo) (N := 15) hx hb hts in_Mo hown hK hP 0 rfl rfl 12 (by decide) (hts _ kw_451) (fun _ h9 => h9) rfl d_Mo_digits_59 ?_
                  refine lv_iload hx hb d_Mo_digits_62 (lv_at hl 0 rfl) ?_
                  refine ar_ld (k := 2) hx hb hK hP 2 0 rfl rfl (by omega) (by first | decide | omega) d_Mo_digits_64 ?_
                  refine tp (pk_us) ?_
                  refine lv_isub hx hb d_Mo_digits_65 ?_
                  refine tp (pk_sub (by omega)) ?_
                  refine lv_istore_n (lv' := [(3, .int (nI (((60 - (nb4 (hh (hh (hh (hh (nI 17) (M b)) (M (b + 1))) (M (b + 2))) (M (b + 3))) 0)) - (nb4 (hh (hh (hh (hh (nI 17) (M b)) (M (b + 1))) (M (b + 2))) (M (b + 3))) 1)) - (nb4 (hh (hh (hh (hh (nI 17) (M b)) (M (b + 1))) (M (b + 2))) (M (b + 3))) 2)))), (4, .int (nI 2)), (2, .int (hh (hh (hh (hh (nI 17) (M b)) (M (b + 1))) (M (b + 2))) (M (b + 3)))), (0, .ref hm), (1, .int (nI b))]) hx hb d_Mo_digits_66 rfl hl (by decide) rfl (fun ls hl => ?_)
                  refine lv_iinc (k := 1) (v := (nI 3)) (lv' := [(4, .int (nI 3)), (3, .int (nI (((60 - (nb4 (hh (hh (hh (hh (nI 17) (M b)) (M (b + 1))) (M (b + 2))) (M (b + 3))) 0)) - (nb4 (hh (hh (hh (hh (nI 17) (M b)) (M (b + 1))) (M (b + 2))) (M (b + 3))) 1)) - (nb4 (hh (hh (hh (hh (nI 17) (M b)) (M (b + 1))) (M (b + 2))) (M (b + 3))) 2)))), (2, .int (hh (hh (hh (hh (nI 17) (M b)) (M (b + 1))) (M (b + 2))) (M (b + 3)))), (0, .ref hm), (1, .int (nI b))]) hx hb d_Mo_digits_67 hl rfl (by decide) (by decide) rfl (fun ls hl => ?_)
                  refine lv_goto (tgt := 35) hx hb d_Mo_digits_70 (by decide) ?_
                  refine lv_iload hx hb d_Mo_digits_35 (lv_at hl 0 rfl) ?_
                  refine lv_iconst (v := (nI 4)) hx hb d_Mo_digits_37 (by decide) ?_
                  refine nb_ge (tgt := 73) hx hb d_Mo_digits_38 (by decide) (by decide) (by decide) (fun h_9 => ?_) (fun h_9 => ?_)
                  · exact absurd h_9 (by decide)
                  · refine lv_aload_n hx hb d_Mo_digits_41 rfl (lv_at hl 3 rfl) ?_
                    refine va_get (D := (dC, dI)) (ci := 3) (v := .ref hd) (C := R_Mo) (T := F_Mo) (N := 15) hx hb hts in_Mo hown hK hP 0 rfl rfl 12 (by decide) (hts _ kw_451) (fun _ h9 => h9) rfl d_Mo_digits_42 ?_
                    refine lv_iload hx hb d_Mo_digits_45 (lv_at hl 0 rfl) ?_
                    refine lv_iload_n hx hb d_Mo_digits_47 rfl (lv_at hl 2 rfl) ?_
                    refine lv_iconst (v := (nI 4)) hx hb d_Mo_digits_48 (by decide) ?_
                    refine lv_iload hx hb d_Mo_digits_49 (lv_at hl 0 rfl) ?_
                    refine lv_imul hx hb d_Mo_digits_51 ?_
                    refine tp (y := (nI 12)) (by decide) ?_
                    refine lv_iushr (v := ush (hh (hh (hh (hh (nI 17) (M b)) (M (b + 1))) (M (b + 2))) (M (b + 3))) (nI 12)) hx hb d_Mo_digits_52 rfl ?_
                    refine lv_bipush (v := (nI 15)) hx hb d_Mo_digits_53 (by decide) ?_
                    refine lv_iand hx hb d_Mo_digits_55 ?_
                    have g3 := nb4_lt (hh (hh (hh (hh (nI 17) (M b)) (M (b + 1))) (M (b + 2))) (M (b + 3))) 3
                    refine tp (nb4_eq (hh (hh (hh (hh (nI 17) (M b)) (M (b + 1))) (M (b + 2))) (M (b + 3))) 3) ?_
                    refine ar_st (k := 3) hx hb hK hP hD hS 2 0 rfl rfl (by omega) (by first | decide | omega) d_Mo_digits_56 (fun H locs hP hD hS => ?_)
                    have hP : va_P (dC, dI) classes [(hm, .inr (3, [.int sc, .ref hw, .int (nI cn), .int (nI fu), .int lf, .int (bI dd), .int dn, .int rn, .int (bI tr), .int (nI lg), .ref he, .int me, .ref hd, .ref hen, .ref hnd])), (hw, .inl (cI, 160, .inl M)), (hd, .inl (cI, 6, .inl (upd (upd (upd (upd dg 0 (nI (nb4 (hh (hh (hh (hh (nI 17) (M b)) (M (b + 1))) (M (b + 2))) (M (b + 3))) 0))) 1 (nI (nb4 (hh (hh (hh (hh (nI 17) (M b)) (M (b + 1))) (M (b + 2))) (M (b + 3))) 1))) 2 (nI (nb4 (hh (hh (hh (hh (nI 17) (M b)) (M (b + 1))) (M (b + 2))) (M (b + 3))) 2))) 3 (nI (nb4 (hh (hh (hh (hh (nI 17) (M b)) (M (b + 1))) (M (b + 2))) (M (b + 3))) 3)))))] H := hP
                    have hD : va_D A [(hm, .inr (3, [.int sc, .ref hw, .int (nI cn), .int (nI fu), .int lf, .int (bI dd), .int dn, .int rn, .int (bI tr), .int (nI lg), .ref he, .int me, .ref hd, .ref hen, .ref hnd])), (hw, .inl (cI, 160, .inl M)), (hd, .inl (cI, 6, .inl (upd (upd (upd (upd dg 0 (nI (nb4 (hh (hh (hh (hh (nI 17) (M b)) (M (b + 1))) (M (b + 2))) (M (b + 3))) 0))) 1 (nI (nb4 (hh (hh (hh (hh (nI 17) (M b)) (M (b + 1))) (M (b + 2))) (M (b + 3))) 1))) 2 (nI (nb4 (hh (hh (hh (hh (nI 17) (M b)) (M (b + 1))) (M (b + 2))) (M (b + 3))) 2))) 3 (nI (nb4 (hh (hh (hh (hh (nI 17) (M b)) (M (b + 1))) (M (b + 2))) (M (b + 3))) 3)))))] := hD
                    refine lv_iload_n hx hb d_Mo_digits_57 rfl (lv_at hl 1 rfl) ?_
                    refine lv_aload_n hx hb d_Mo_digits_58 rfl (lv_at hl 3 rfl) ?_
                    refine va_get (D := (dC, dI)) (ci := 3) (v := .ref hd) (C := R_Mo) (T := F_Mo) (N := 15) hx hb hts in_Mo hown hK hP 0 rfl rfl 12 (by decide) (hts _ kw_451) (fun _ h9 => h9) rfl d_Mo_digits_59 ?_
                    refine lv_iload hx hb d_Mo_digits_62 (lv_at hl 0 rfl) ?_
                    refine ar_ld (k := 3) hx hb hK hP 2 0 rfl rfl (by omega) (by first | decide | omega) d_Mo_digits_64 ?_
                    refine tp (pk_us) ?_
                    refine lv_isub hx hb d_Mo_digits_65 ?_
                    refine tp (pk_sub (by omega)) ?_
                    refine lv_istore_n (lv' := [(3, .int (nI ((((60 - (nb4 (hh (hh (hh (hh (nI 17) (M b)) (M (b + 1))) (M (b + 2))) (M (b + 3))) 0)) - (nb4 (hh (hh (hh (hh (nI 17) (M b)) (M (b + 1))) (M (b + 2))) (M (b + 3))) 1)) - (nb4 (hh (hh (hh (hh (nI 17) (M b)) (M (b + 1))) (M (b + 2))) (M (b + 3))) 2)) - (nb4 (hh (hh (hh (hh (nI 17) (M b)) (M (b + 1))) (M (b + 2))) (M (b + 3))) 3)))), (4, .int (nI 3)), (2, .int (hh (hh (hh (hh (nI 17) (M b)) (M (b + 1))) (M (b + 2))) (M (b + 3)))), (0, .ref hm), (1, .int (nI b))]) hx hb d_Mo_digits_66 rfl hl (by decide) rfl (fun ls hl => ?_)
                    refine lv_iinc (k := 1) (v := (nI 4)) (lv' := [(4, .int (nI 4)), (3, .int (nI ((((60 - (nb4 (hh (hh (hh (hh (nI 17) (M b)) (M (b + 1))) (M (b + 2))) (M (b + 3))) 0)) - (nb4 (hh (hh (hh (hh (nI 17) (M b)) (M (b + 1))) (M (b + 2))) (M (b + 3))) 1)) - (nb4 (hh (hh (hh (hh (nI 17) (M b)) (M (b + 1))) (M (b + 2))) (M (b + 3))) 2)) - (nb4 (hh (hh (hh (hh (nI 17) (M b)) (M (b + 1))) (M (b + 2))) (M (b + 3))) 3)))), (2, .int (hh (hh (hh (hh (nI 17) (M b)) (M (b + 1))) (M (b + 2))) (M (b + 3)))), (0, .ref hm), (1, .int (nI b))]) hx hb d_Mo_digits_67 hl rfl (by decide) (by decide) rfl (fun ls hl => ?_)
                    refine lv_goto (tgt := 35) hx hb d_Mo_digits_70 (by decide) ?_
                    refine lv_iload hx hb d_Mo_digits_35 (lv_at hl 0 rfl) ?_
                    refine lv_iconst (v := (nI 4)) hx hb d_Mo_digits_37 (by decide) ?_
                    refine nb_ge (tgt := 73) hx hb d_Mo_digits_38 (by decide) (by decide) (by decide) (fun h_10 => ?_) (fun h_10 => ?_)
                    · refine lv_aload_n hx hb d_Mo_digits_73 rfl (lv_at hl 3 rfl) ?_
                      refine va_get (D := (dC, dI)) (ci := 3) (v := .ref hd) (C := R_Mo) (T := F_Mo) (N := 15) hx hb hts in_Mo hown hK hP 0 rfl rfl 12 (by decide) (hts _ kw_451) (fun _ h9 => h9) rfl d_Mo_digits_74 ?_
                      refine lv_iconst (v := (nI 4)) hx hb d_Mo_digits_77 (by decide) ?_
                      refine lv_iload_n hx hb d_Mo_digits_78 rfl (lv_at hl 1 rfl) ?_
                      refine lv_bipush (v := (nI 15)) hx hb d_Mo_digits_79 (by decide) ?_
                      refine lv_iand hx hb d_Mo_digits_81 ?_
                      refine tp (pk_andN (by omega) 4 (by decide)) ?_
                      refine ar_st (k := 4) hx hb hK hP hD hS 2 0 rfl rfl (by omega) (by first | decide | omega) d_Mo_digits_82 (fun H locs hP hD hS => ?_)
                      have hP : va_P (dC, dI) classes [(hm, .inr (3, [.int sc, .ref hw, .int (nI cn), .int (nI fu), .int lf, .int (bI dd), .int dn, .int rn, .int (bI tr), .int (nI lg), .ref he, .int me, .ref hd, .ref hen, .ref hnd])), (hw, .inl (cI, 160, .inl M)), (hd, .inl (cI, 6, .inl (upd (upd (upd (upd (upd dg 0 (nI (nb4 (hh (hh (hh (hh (nI 17) (M b)) (M (b + 1))) (M (b + 2))) (M (b + 3))) 0))) 1 (nI (nb4 (hh (hh (hh (hh (nI 17) (M b)) (M (b + 1))) (M (b + 2))) (M (b + 3))) 1))) 2 (nI (nb4 (hh (hh (hh (hh (nI 17) (M b)) (M (b + 1))) (M (b + 2))) (M (b + 3))) 2))) 3 (nI (nb4 (hh (hh (hh (hh (nI 17) (M b)) (M (b + 1))) (M (b + 2))) (M (b + 3))) 3))) 4 (nI (((((60 - (nb4 (hh (hh (hh (hh (nI 17) (M b)) (M (b + 1))) (M (b + 2))) (M (b + 3))) 0)) - (nb4 (hh (hh (hh (hh (nI 17) (M b)) (M (b + 1))) (M (b + 2))) (M (b + 3))) 1)) - (nb4 (hh (hh (hh (hh (nI 17) (M b)) (M (b + 1))) (M (b + 2))) (M (b + 3))) 2)) - (nb4 (hh (hh (hh (hh (nI 17) (M b)) (M (b + 1))) (M (b + 2))) (M (b + 3))) 3)) % 2 ^ 4)))))] H := hP
                      have hD : va_D A [(hm, .inr (3, [.int sc, .ref hw, .int (nI cn), .int (nI fu), .int lf, .int (bI dd), .int dn, .int rn, .int (bI tr), .int (nI lg), .ref he, .int me, .ref hd, .ref hen, .ref hnd])), (hw, .inl (cI, 160, .inl M)), (hd, .inl (cI, 6, .inl (upd (upd (upd (upd (upd dg 0 (nI (nb4 (hh (hh (hh (hh (nI 17) (M b)) (M (b + 1))) (M (b + 2))) (M (b + 3))) 0))) 1 (nI (nb4 (hh (hh (hh (hh (nI 17) (M b)) (M (b + 1))) (M (b + 2))) (M (b + 3))) 1))) 2 (nI (nb4 (hh (hh (hh (hh (nI 17) (M b)) (M (b + 1))) (M (b + 2))) (M (b + 3))) 2))) 3 (nI (nb4 (hh (hh (hh (hh (nI 17) (M b)) (M (b + 1))) (M (b + 2))) (M (b + 3))) 3))) 4 (nI (((((60 - (nb4 (hh (hh (hh (hh (nI 17) (M b)) (M (b + 1))) (M (b + 2))) (M (b + 3))) 0)) - (nb4 (hh (hh (hh (hh (nI 17) (M b)) (M (b + 1))) (M (b + 2))) (M (b + 3))) 1)) - (nb4 (hh (hh (hh (hh (nI 17) (M b)) (M (b + 1))) (M (b + 2))) (M (b + 3))) 2)) - (nb4 (hh (hh (hh (hh (nI 17) (M b)) (M (b + 1))) (M (b + 2))) (M (b + 3))) 3)) % 2 ^ 4)))))] := hD
                      refine lv_aload_n hx hb d_Mo_digits_83 rfl (lv_at hl 3 rfl) ?_
                      refine va_get (D := (dC, dI)) (ci := 3) (v := .ref hd) (C := R_Mo) (T := F_Mo) (N := 15) hx hb hts in_Mo hown hK hP 0 rfl rfl 12 (by decide) (hts _ kw_451) (fun _ h9 => h9) rfl d_Mo_digits_84 ?_
                      refine lv_iconst (v := (nI 5)) hx hb d_Mo_digits_87 (by decide) ?_
                      refine lv_iload_n hx hb d_Mo_digits_88 rfl (lv_at hl 1 rfl) ?_
                      refine lv_iconst (v := (nI 4)) hx hb d_Mo_digits_89 (by decide) ?_
                      refine lv_iushr (v := ush (nI ((((60 - (nb4 (hh (hh (hh (hh (nI 17) (M b)) (M (b + 1))) (M (b + 2))) (M (b + 3))) 0)) - (nb4 (hh (hh (hh (hh (nI 17) (M b)) (M (b + 1))) (M (b + 2))) (M (b + 3))) 1)) - (nb4 (hh (hh (hh (hh (nI 17) (M b)) (M (b + 1))) (M (b + 2))) (M (b + 3))) 2)) - (nb4 (hh (hh (hh (hh (nI 17) (M b)) (M (b + 1))) (M (b + 2))) (M (b + 3))) 3))) (nI 4)) hx hb d_Mo_digits_90 rfl ?_
                      refine tp (y := nI (((((60 - (nb4 (hh (hh (hh (hh (nI 17) (M b)) (M (b + 1))) (M (b + 2))) (M (b + 3))) 0)) - (nb4 (hh (hh (hh (hh (nI 17) (M b)) (M (b + 1))) (M (b + 2))) (M (b + 3))) 1)) - (nb4 (hh (hh (hh (hh (nI 17) (M b)) (M (b + 1))) (M (b + 2))) (M (b + 3))) 2)) - (nb4 (hh (hh (hh (hh (nI 17) (M b)) (M (b + 1))) (M (b + 2))) (M (b + 3))) 3)) / 2 ^ 4)) (pk_ushrN (by omega) (nI 4) 4 (by decide)) ?_
                      refine ar_st (k := 5) hx hb hK hP hD hS 2 0 rfl rfl (by omega) (by first | decide | omega) d_Mo_digits_91 (fun H locs hP hD hS => ?_)
                      have hP : va_P (dC, dI) classes [(hm, .inr (3, [.int sc, .ref hw, .int (nI cn), .int (nI fu), .int lf, .int (bI dd), .int dn, .int rn, .int (bI tr), .int (nI lg), .ref he, .int me, .ref hd, .ref hen, .ref hnd])), (hw, .inl (cI, 160, .inl M)), (hd, .inl (cI, 6, .inl (upd (upd (upd (upd (upd (upd dg 0 (nI (nb4 (hh (hh (hh (hh (nI 17) (M b)) (M (b + 1))) (M (b + 2))) (M (b + 3))) 0))) 1 (nI (nb4 (hh (hh (hh (hh (nI 17) (M b)) (M (b + 1))) (M (b + 2))) (M (b + 3))) 1))) 2 (nI (nb4 (hh (hh (hh (hh (nI 17) (M b)) (M (b + 1))) (M (b + 2))) (M (b + 3))) 2))) 3 (nI (nb4 (hh (hh (hh (hh (nI 17) (M b)) (M (b + 1))) (M (b + 2))) (M (b + 3))) 3))) 4 (nI (((((60 - (nb4 (hh (hh (hh (hh (nI 17) (M b)) (M (b + 1))) (M (b + 2))) (M (b + 3))) 0)) - (nb4 (hh (hh (hh (hh (nI 17) (M b)) (M (b + 1))) (M (b + 2))) (M (b + 3))) 1)) - (nb4 (hh (hh (hh (hh (nI 17) (M b)) (M (b + 1))) (M (b + 2))) (M (b + 3))) 2)) - (nb4 (hh (hh (hh (hh (nI 17) (M b)) (M (b + 1))) (M (b + 2))) (M (b + 3))) 3)) % 2 ^ 4))) 5 (nI (((((60 - (nb4 (hh (hh (hh (hh (nI 17) (M b)) (M (b + 1))) (M (b + 2))) (M (b + 3))) 0)) - (nb4 (hh (hh (hh (hh (nI 17) (M b)) (M (b + 1))) (M (b + 2))) (M (b + 3))) 1)) - (nb4 (hh (hh (hh (hh (nI 17) (M b)) (M (b + 1))) (M (b + 2))) (M (b + 3))) 2)) - (nb4 (hh (hh (hh (hh (nI 17) (M b)) (M (b + 1))) (M (b + 2))) (M (b + 3))) 3)) / 2 ^ 4)))))] H := hP
                      have hD : va_D A [(hm, .inr (3, [.int sc, .ref hw, .int (nI cn), .int (nI fu), .int lf, .int (bI dd), .int dn, .int rn, .int (bI tr), .int (nI lg), .ref he, .int me, .ref hd, .ref hen, .ref hnd])), (hw, .inl (cI, 160, .inl M)), (hd, .inl (cI, 6, .inl (upd (upd (upd (upd (upd (upd dg 0 (nI (nb4 (hh (hh (hh (hh (nI 17) (M b)) (M (b + 1))) (M (b + 2))) (M (b + 3))) 0))) 1 (nI (nb4 (hh (hh (hh (hh (nI 17) (M b)) (M (b + 1))) (M (b + 2))) (M (b + 3))) 1))) 2 (nI (nb4 (hh (hh (hh (hh (nI 17) (M b)) (M (b + 1))) (M (b + 2))) (M (b + 3))) 2))) 3 (nI (nb4 (hh (hh (hh (hh (nI 17) (M b)) (M (b + 1))) (M (b + 2))) (M (b + 3))) 3))) 4 (nI (((((60 - (nb4 (hh (hh (hh (hh (nI 17) (M b)) (M (b + 1))) (M (b + 2))) (M (b + 3))) 0)) - (nb4 (hh (hh (hh (hh (nI 17) (M b)) (M (b + 1))) (M (b + 2))) (M (b + 3))) 1)) - (nb4 (hh (hh (hh (hh (nI 17) (M b)) (M (b + 1))) (M (b + 2))) (M (b + 3))) 2)) - (nb4 (hh (hh (hh (hh (nI 17) (M b)) (M (b + 1))) (M (b + 2))) (M (b + 3))) 3)) % 2 ^ 4))) 5 (nI (((((60 - (nb4 (hh (hh (hh (hh (nI 17) (M b)) (M (b + 1))) (M (b + 2))) (M (b + 3))) 0)) - (nb4 (hh (hh (hh (hh (nI 17) (M b)) (M (b + 1))) (M (b + 2))) (M (b + 3))) 1)) - (nb4 (hh (hh (hh (hh (nI 17) (M b)) (M (b + 1))) (M (b + 2))) (M (b + 3))) 2)) - (nb4 (hh (hh (hh (hh (nI 17) (M b)) (M (b + 1))) (M (b + 2))) (M (b + 3))) 3)) / 2 ^ 4)))))] := hD
                      exact W.vret hx hb hr (fun t ht hW => ⟨⟨(upd (upd (upd (upd (upd (upd dg 0 (nI (nb4 (hh (hh (hh (hh (nI 17) (M b)) (M (b + 1))) (M (b + 2))) (M (b + 3))) 0))) 1 (nI (nb4 (hh (hh (hh (hh (nI 17) (M b)) (M (b + 1))) (M (b + 2))) (M (b + 3))) 1))) 2 (nI (nb4 (hh (hh (hh (hh (nI 17) (M b)) (M (b + 1))) (M (b + 2))) (M (b + 3))) 2))) 3 (nI (nb4 (hh (hh (hh (hh (nI 17) (M b)) (M (b + 1))) (M (b + 2))) (M (b + 3))) 3))) 4 (nI (((((60 - (nb4 (hh (hh (hh (hh (nI 17) (M b)) (M (b + 1))) (M (b + 2))) (M (b + 3))) 0)) - (nb4 (hh (hh (hh (hh (nI 17) (M b)) (M (b + 1))) (M (b + 2))) (M (b + 3))) 1)) - (nb4 (hh (hh (hh (hh (nI 17) (M b)) (M (b + 1))) (M (b + 2))) (M (b + 3))) 2)) - (nb4 (hh (hh (hh (hh (nI 17) (M b)) (M (b + 1))) (M (b + 2))) (M (b + 3))) 3)) % 2 ^ 4))) 5 (nI (((((60 - (nb4 (hh (hh (hh (hh (nI 17) (M b)) (M (b + 1))) (M (b + 2))) (M (b + 3))) 0)) - (nb4 (hh (hh (hh (hh (nI 17) (M b)) (M (b + 1))) (M (b + 2))) (M (b + 3))) 1)) - (nb4 (hh (hh (hh (hh (nI 17) (M b)) (M (b + 1))) (M (b + 2))) (M (b + 3))) 2)) - (nb4 (hh (hh (hh (hh (nI 17) (M b)) (M (b + 1))) (M (b + 2))) (M (b + 3))) 3)) / 2 ^ 4))), rfl, (by first | rfl | (simp only []; done) | (simp only []; rfl) | (simp []; done)), by rw [ht]; exact hP, hD⟩, hS.F ht⟩) hS.2.2 d_Mo_digits_92
                    · exact absurd h_10 (by decide)
          · exact absurd h_5 (by decide)
set_option maxHeartbeats 4000000 in
set_option maxRecDepth 100000 in
theorem c_Mo_signed (l : Launch) (dC : Nat → ClassId) (dI : Nat → Nat → Nat) (cI : ClassId) (hm : Nat) (b : Nat) (sc : Int32) (hw : Nat) (cn : Nat) (fu : Nat) (lf : Int32) (dd : Bool) (dn : Int32) (rn : Int32) (tr : Bool) (lg : Nat) (he : Nat) (me : Int32) (hd : Nat) (hen : Nat) (hnd : Nat) (M : Nat → Int32) (dg : Nat → Int32) (ed : Nat → Int32) (nd : Nat → Int32) (hb160 : b + 17 ≤ 160) (sz : Nat) : Met l y_Mo_signed w_Mo_signed ({ frames := 5, cells := 0, slots := 0, locals := 113 }) (va_Pc [.ref hm, .int (nI b)] (fun U => U.heap.size = sz ∧ va_P (dC, dI) classes [(hm, .inr (3, [.int sc, .ref hw, .int (nI cn), .int (nI fu), .int lf, .int (bI dd), .int dn, .int rn, .int (bI tr), .int (nI lg), .ref he, .int me, .ref hd, .ref hen, .ref hnd])), (hw, .inl (cI, 160, .inl M)), (hd, .inl (cI, 6, .inl dg)), (hen, .inl (cI, 6, .inl ed)), (hnd, .inl (cI, 16, .inl nd))] U.heap ∧ KN dC dI cI U ∧ va_D (fun _ => True) [(hm, .inr (3, [.int sc, .ref hw, .int (nI cn), .int (nI fu), .int lf, .int (bI dd), .int dn, .int rn, .int (bI tr), .int (nI lg), .ref he, .int me, .ref hd, .ref hen, .ref hnd])), (hw, .inl (cI, 160, .inl M)), (hd, .inl (cI, 6, .inl dg)), (hen, .inl (cI, 6, .inl ed)), (hnd, .inl (cI, 16, .inl nd))])) (va_Qi (fun (r : Int32) (u : (Nat → Int32) × (Nat → Int32) × (Nat → Int32)) => ∃ res : Bool, r = bI res ∧ (res = sgOk (fun i => M (b + i)) (root sc))) (fun (u : (Nat → Int32) × (Nat → Int32) × (Nat → Int32)) t => va_P (dC, dI) classes [(hm, .inr (3, [.int sc, .ref hw, .int (nI cn), .int (nI fu), .int lf, .int (bI dd), .int dn, .int rn, .int (bI tr), .int (nI lg), .ref he, .int me, .ref hd, .ref hen, .ref hnd])), (hw, .inl (cI, 160, .inl M)), (hd, .inl (cI, 6, .inl u.1)), (hen, .inl (cI, 6, .inl u.2.1)), (hnd, .inl (cI, 16, .inl u.2.2))] t.heap ∧ va_D (va_A [(hm, .inr (3, [.int sc, .ref hw, .int (nI cn), .int (nI fu), .int lf, .int (bI dd), .int dn, .int rn, .int (bI tr), .int (nI lg), .ref he, .int me, .ref hd, .ref hen, .ref hnd])), (hw, .inl (cI, 160, .inl M)), (hd, .inl (cI, 6, .inl dg)), (hen, .inl (cI, 6, .inl ed)), (hnd, .inl (cI, 16, .inl nd))] sz) [(hm, .inr (3, [.int sc, .ref hw, .int (nI cn), .int (nI fu), .int lf, .int (bI dd), .int dn, .int rn, .int (bI tr), .int (nI lg), .ref he, .int me, .ref hd, .ref hen, .ref hnd])), (hw, .inl (cI, 160, .inl M)), (hd, .inl (cI, 6, .inl u.1)), (hen, .inl (cI, 6, .inl u.2.1)), (hnd, .inl (cI, 16, .inl u.2.2))]) (va_A [(hm, .inr (3, [.int sc, .ref hw, .int (nI cn), .int (nI fu), .int lf, .int (bI dd), .int dn, .int rn, .int (bI tr), .int (nI lg), .ref he, .int me, .ref hd, .ref hen, .ref hnd])), (hw, .inl (cI, 160, .inl M)), (hd, .inl (cI, 6, .inl dg)), (hen, .inl (cI, 6, .inl ed)), (hnd, .inl (cI, 16, .inl nd))] sz)) 0 0 (va_A [(hm, .inr (3, [.int sc, .ref hw, .int (nI cn), .int (nI fu), .int lf, .int (bI dd), .int dn, .int rn, .int (bI tr), .int (nI lg), .ref he, .int me, .ref hd, .ref hen, .ref hnd])), (hw, .inl (cI, 160, .inl M)), (hd, .inl (cI, 6, .inl dg)), (hen, .inl (cI, 6, .inl ed)), (hnd, .inl (cI, 16, .inl nd))] sz) := by
  refine Met.ofW (cc := b_Mo_signed) (maxL := 8) (ret := (some .boolean)) (by decide) rfl ?_
  intro p e s m args below meth c s₁ B hml hv
  obtain ⟨rfl, hsz, hP, hKN, hD0⟩ := hv
  have hK := hKN.1
  have hx := B.exec
  have hb := B.bytes
  have hr := B.returns
  have hts := fun (w : Cond) (h : w ∈ gt) => atoms_spec (ws := w_Mo_signed) B.pre w (List.mem_cons_of_mem _ h)
  have hown : s.vm.findClass R_Mo = some m.cls := findClass_of_methodNamed B.named
  have hlocks := B.notSynchronized
  subst hsz
  have hD := hD0.self (sz := s.heap.size)
  generalize hAe : va_A [(hm, .inr (3, [.int sc, .ref hw, .int (nI cn), .int (nI fu), .int lf, .int (bI dd), .int dn, .int rn, .int (bI tr), .int (nI lg), .ref he, .int me, .ref hd, .ref hen, .ref hnd])), (hw, .inl (cI, 160, .inl M)), (hd, .inl (cI, 6, .inl dg)), (hen, .inl (cI, 6, .inl ed)), (hnd, .inl (cI, 16, .inl nd))] s.heap.size = A at hD ⊢
  have hA : ∀ q : Nat, s.heap.size ≤ q → A q := fun q h => by rw [← hAe]; exact Or.inr h
  have hS : va_S A s.heap s.heap [] := va_S.rf
  have hP : va_P (dC, dI) classes [(hm, .inr (3, [.int sc, .ref hw, .int (nI cn), .int (nI fu), .int lf, .int (bI dd), .int dn, .int rn, .int (bI tr), .int (nI lg), .ref he, .int me, .ref hd, .ref hen, .ref hnd])), (hw, .inl (cI, 160, .inl M)), (hd, .inl (cI, 6, .inl dg)), (hen, .inl (cI, 6, .inl ed)), (hnd, .inl (cI, 16, .inl nd))] s.heap := hP
  clear hAe hD0
  have hl := lv_entry ([.ref hm, .int (nI b)]) (n := 8) (Nat.le_of_ble_eq_true rfl)
  rw [lg_entry_eq]
  generalize (lg_sl ([.ref hm, .int (nI b)]) ++ List.replicate (8 - (lg_sl ([.ref hm, .int (nI b)])).length) Slot.unset).toArray = ls at hl ⊢
  have hl : lv_has ls 8 [(0, .ref hm), (1, .int (nI b))] := hl
  refine lv_aload_n hx hb d_Mo_signed_0 rfl (lv_at hl 0 rfl) ?_
  refine va_get (D := (dC, dI)) (ci := 3) (v := .ref hw) (C := R_Mo) (T := F_Mo) (N := 15) hx hb hts in_Mo hown hK hP 0 rfl rfl 1 (by decide) (hts _ kw_440) (fun _ h9 => h9) rfl d_Mo_signed_1 ?_
  refine lv_iload_n hx hb d_Mo_signed_4 rfl (lv_at hl 1 rfl) ?_
  refine lv_iconst (v := (nI 4)) hx hb d_Mo_signed_5 (by decide) ?_
  refine lv_iadd hx hb d_Mo_signed_6 ?_
  refine tp (nI_add _ _) ?_
  refine ar_ld (k := b + 4) hx hb hK hP 1 0 rfl rfl (by omega) (by first | decide | omega) d_Mo_signed_7 ?_
  refine lv_istore_n (lv' := [(2, .int (M (b + 4))), (0, .ref hm), (1, .int (nI b))]) hx hb d_Mo_signed_8 rfl hl (by decide) rfl (fun ls hl => ?_)
  refine lv_iload_n hx hb d_Mo_signed_9 rfl (lv_at hl 0 rfl) ?_
  refine lv_if_lt (tgt := 19) hx hb d_Mo_signed_10 (by decide) (fun h_1 => ?_) (fun h_1 => ?_)
  · refine lv_iconst (v := (nI 0)) hx hb d_Mo_signed_19 (by decide) ?_
    exact W.zret (v := (bI false)) hx hb hr (bI_narrow _) (fun t ht hW => ⟨⟨_, (dg, ed, nd), rfl, ⟨false, rfl, (by simp [sgOk, h_1])⟩, by rw [ht]; exact hP, hD⟩, hS.F ht⟩) hS.2.2 d_Mo_signed_20
  · refine lv_iload_n hx hb d_Mo_signed_13 rfl (lv_at hl 0 rfl) ?_
    refine lv_bipush (v := (nI 7)) hx hb d_Mo_signed_14 (by decide) ?_
    refine lv_icmp_le (tgt := 21) hx hb d_Mo_signed_16 (by decide) (fun h_2 => ?_) (fun h_2 => ?_)
    · obtain ⟨q, hq8, hq⟩ := key_nat7 h_1 h_2
      refine lv_aload_n hx hb d_Mo_signed_21 rfl (lv_at hl 1 rfl) ?_
      have hPc := hP.sub (ws' := [(hm, .inr (3, [.int sc, .ref hw, .int (nI cn), .int (nI fu), .int lf, .int (bI dd), .int dn, .int rn, .int (bI tr), .int (nI lg), .ref he, .int me, .ref hd, .ref hen, .ref hnd])), (hen, .inl (cI, 6, .inl ed)), (hnd, .inl (cI, 16, .inl nd))]) [0, 3, 4] rfl
      have hDc := hD.sub (ws' := [(hm, .inr (3, [.int sc, .ref hw, .int (nI cn), .int (nI fu), .int lf, .int (bI dd), .int dn, .int rn, .int (bI tr), .int (nI lg), .ref he, .int me, .ref hd, .ref hen, .ref hnd])), (hen, .inl (cI, 6, .inl ed)), (hnd, .inl (cI, 16, .inl nd))]) [0, 3, 4] (by decide) rfl
      have hFc := va_free (wc := [(hm, .inr (3, [.int sc, .ref hw, .int (nI cn), .int (nI fu), .int lf, .int (bI dd), .int dn, .int rn, .int (bI tr), .int (nI lg), .ref he, .int me, .ref hd, .ref hen, .ref hnd])), (hen, .inl (cI, 6, .inl ed)), (hnd, .inl (cI, 16, .inl nd))]) hD hS hA [0, 3, 4] rfl
      refine va_calli (va_runV (As := []) (rest := []) ⟨hx, hb, hml, hown, hts⟩ (c_Mo_key l dC dI cI (hm := hm) (sc := sc) (hw := hw) (cn := cn) (fu := fu) (lf := lf) (dd := dd) (dn := dn) (rn := rn) (tr := tr) (lg := lg) (he := he) (me := me) (hd := hd) (hen := hen) (hnd := hnd) (ed := ed) (nd := nd)  (sz := s.heap.size)) ⟨callB_of 0 hts (gd kw_488) rfl rfl rfl (hts _ kw_41) (hts _ kw_517) (by decide +kernel) ⟨Nat.le_of_ble_eq_true rfl, Nat.le_of_ble_eq_true rfl⟩, (hts _ kw_486), (hts _ kw_487)⟩ ⟨fun a U g mk q => by obtain ⟨q0, q1, qP, qK, qD⟩ := q; exact ⟨q0, q1, qP, qK.call, qD⟩, va_recv hK hP (ci := 3) rfl (q0 := 0) rfl, fun U hU hW => ⟨rfl, by rw [hU], by rw [hU]; exact hPc, hKN.warm hW, hDc.weaken (fun _ _ _ _ => trivial)⟩⟩ rfl rfl hl.1 rfl (lv_room (Nat.le_of_ble_eq_true rfl)) d_Mo_signed_22 ⟨Nat.zero_le _, Nat.zero_le _⟩) hS (fun q _ h => hFc q h) hFc (fun r u t H1 locs zt zvm zw zB zz zk hS => ?_)
      obtain ⟨ed_3, nd_3⟩ := u
      obtain ⟨r_3, rfl⟩ : ∃ z, z = r := ⟨_, rfl⟩
      have hu_3 := zw
      obtain ⟨hP1, hD1⟩ := zB
      rw [zt] at hP1
      have hP1 : va_P (dC, dI) classes [(hm, .inr (3, [.int sc, .ref hw, .int (nI cn), .int (nI fu), .int lf, .int (bI dd), .int dn, .int rn, .int (bI tr), .int (nI lg), .ref he, .int me, .ref hd, .ref hen, .ref hnd])), (hen, .inl (cI, 6, .inl ed_3)), (hnd, .inl (cI, 16, .inl nd_3))] H1 := hP1
      obtain ⟨hP, hD⟩ := va_join (wc := [(hm, .inr (3, [.int sc, .ref hw, .int (nI cn), .int (nI fu), .int lf, .int (bI dd), .int dn, .int rn, .int (bI tr), .int (nI lg), .ref he, .int me, .ref hd, .ref hen, .ref hnd])), (hen, .inl (cI, 6, .inl ed)), (hnd, .inl (cI, 16, .inl nd))]) (wr := [(hw, .inl (cI, 160, .inl M)), (hd, .inl (cI, 6, .inl dg))]) (w1 := [(hm, .inr (3, [.int sc, .ref hw, .int (nI cn), .int (nI fu), .int lf, .int (bI dd), .int dn, .int rn, .int (bI tr), .int (nI lg), .ref he, .int me, .ref hd, .ref hen, .ref hnd])), (hen, .inl (cI, 6, .inl ed_3)), (hnd, .inl (cI, 16, .inl nd_3))]) hP hD [0, 3, 4] [1, 2] rfl rfl (by decide) (by decide) zk hFc hP1 hD1
      generalize H1 = H at hP hS ⊢
      have hP : va_P (dC, dI) classes [(hm, .inr (3, [.int sc, .ref hw, .int (nI cn), .int (nI fu), .int lf, .int (bI dd), .int dn, .int rn, .int (bI tr), .int (nI lg), .ref he, .int me, .ref hd, .ref hen, .ref hnd])), (hw, .inl (cI, 160, .inl M)), (hd, .inl (cI, 6, .inl dg)), (hen, .inl (cI, 6, .inl ed_3)), (hnd, .inl (cI, 16, .inl nd_3))] H := hP.sub [2, 0, 1, 3, 4] rfl
      have hD : va_D A [(hm, .inr (3, [.int sc, .ref hw, .int (nI cn), .int (nI fu), .int lf, .int (bI dd), .int dn, .int rn, .int (bI tr), .int (nI lg), .ref he, .int me, .ref hd, .ref hen, .ref hnd])), (hw, .inl (cI, 160, .inl M)), (hd, .inl (cI, 6, .inl dg)), (hen, .inl (cI, 6, .inl ed_3)), (hnd, .inl (cI, 16, .inl nd_3))] := hD.sub [2, 0, 1, 3, 4] (by decide) rfl
      clear hPc hDc hFc hP1 hD1 zk zz zvm zt
      have hrt : r_3 = root sc := by have h := keyS_root sc ed nd; rw [hu_3] at h; exact h
      subst hrt
      refine lv_istore_n (lv' := [(3, .int (root sc)), (2, .int (M (b + 4))), (0, .ref hm), (1, .int (nI b))]) hx hb d_Mo_signed_25 rfl hl (by decide) rfl (fun ls hl => ?_)
      refine lv_aload_n hx hb d_Mo_signed_26 rfl (lv_at hl 2 rfl) ?_
      refine lv_iload_n hx hb d_Mo_signed_27 rfl (lv_at hl 3 rfl) ?_
      have hPc := hP.sub (ws' := [(hm, .inr (3, [.int sc, .ref hw, .int (nI cn), .int (nI fu), .int lf, .int (bI dd), .int dn, .int rn, .int (bI tr), .int (nI lg), .ref he, .int me, .ref hd, .ref hen, .ref hnd])), (hw, .inl (cI, 160, .inl M)), (hd, .inl (cI, 6, .inl dg))]) [0, 1, 2] rfl
      have hDc := hD.sub (ws' := [(hm, .inr (3, [.int sc, .ref hw, .int (nI cn), .int (nI fu), .int lf, .int (bI dd), .int dn, .int rn, .int (bI tr), .int (nI lg), .ref he, .int me, .ref hd, .ref hen, .ref hnd])), (hw, .inl (cI, 160, .inl M)), (hd, .inl (cI, 6, .inl dg))]) [0, 1, 2] (by decide) rfl
      have hFc := va_free (wc := [(hm, .inr (3, [.int sc, .ref hw, .int (nI cn), .int (nI fu), .int lf, .int (bI dd), .int dn, .int rn, .int (bI tr), .int (nI lg), .ref he, .int me, .ref hd, .ref hen, .ref hnd])), (hw, .inl (cI, 160, .inl M)), (hd, .inl (cI, 6, .inl dg))]) hD hS hA [0, 1, 2] rfl
      refine va_callv (va_runV (As := [.int (nI b)]) (rest := []) ⟨hx, hb, hml, hown, hts⟩ (c_Mo_digits l dC dI cI (hm := hm) (b := b) (sc := sc) (hw := hw) (cn := cn) (fu := fu) (lf := lf) (dd := dd) (dn := dn) (rn := rn) (tr := tr) (lg := lg) (he := he) (me := me) (hd := hd) (hen := hen) (hnd := hnd) (M := M) (dg := dg) (hb160 := (by omega)) (sz := H.size)) ⟨callB_of 1 hts (gd kw_417) rfl rfl rfl (hts _ kw_41) (hts _ kw_414) (by decide +kernel) ⟨Nat.le_of_ble_eq_true rfl, Nat.le_of_ble_eq_true rfl⟩, (hts _ kw_416), (hts _ kw_18)⟩ ⟨fun a U g mk q => by obtain ⟨q0, q1, qP, qK, qD⟩ := q; exact ⟨q0, q1, qP, qK.call, qD⟩, va_recv hK hP (ci := 3) rfl (q0 := 0) rfl, fun U hU hW => ⟨rfl, by rw [hU], by rw [hU]; exact hPc, hKN.warm hW, hDc.weaken (fun _ _ _ _ => trivial)⟩⟩ rfl rfl hl.1 rfl (lv_room (Nat.le_of_ble_eq_true rfl)) d_Mo_signed_28 ⟨Nat.zero_le _, Nat.zero_le _⟩) hS (fun q _ h => hFc q h) hFc (fun u t H1 locs zt zvm zw zB zz zk hS => ?_)
      obtain ⟨dg_4, rfl⟩ : ∃ z, z = u := ⟨_, rfl⟩
      have hu_4 := zw
      obtain ⟨hP1, hD1⟩ := zB
      rw [zt] at hP1
      have hP1 : va_P (dC, dI) classes [(hm, .inr (3, [.int sc, .ref hw, .int (nI cn), .int (nI fu), .int lf, .int (bI dd), .int dn, .int rn, .int (bI tr), .int (nI lg), .ref he, .int me, .ref hd, .ref hen, .ref hnd])), (hw, .inl (cI, 160, .inl M)), (hd, .inl (cI, 6, .inl dg_4))] H1 := hP1
      obtain ⟨hP, hD⟩ := va_join (wc := [(hm, .inr (3, [.int sc, .ref hw, .int (nI cn), .int (nI fu), .int lf, .int (bI dd), .int dn, .int rn, .int (bI tr), .int (nI lg), .ref he, .int me, .ref hd, .ref hen, .ref hnd])), (hw, .inl (cI, 160, .inl M)), (hd, .inl (cI, 6, .inl dg))]) (wr := [(hen, .inl (cI, 6, .inl ed_3)), (hnd, .inl (cI, 16, .inl nd_3))]) (w1 := [(hm, .inr (3, [.int sc, .ref hw, .int (nI cn), .int (nI fu), .int lf, .int (bI dd), .int dn, .int rn, .int (bI tr), .int (nI lg), .ref he, .int me, .ref hd, .ref hen, .ref hnd])), (hw, .inl (cI, 160, .inl M)), (hd, .inl (cI, 6, .inl dg_4))]) hP hD [0, 1, 2] [3, 4] rfl rfl (by decide) (by decide) zk hFc hP1 hD1
      generalize H1 = H at hP hS ⊢
      have hP : va_P (dC, dI) classes [(hm, .inr (3, [.int sc, .ref hw, .int (nI cn), .int (nI fu), .int lf, .int (bI dd), .int dn, .int rn, .int (bI tr), .int (nI lg), .ref he, .int me, .ref hd, .ref hen, .ref hnd])), (hw, .inl (cI, 160, .inl M)), (hd, .inl (cI, 6, .inl dg_4)), (hen, .inl (cI, 6, .inl ed_3)), (hnd, .inl (cI, 16, .inl nd_3))] H := hP.sub [2, 3, 4, 0, 1] rfl
      have hD : va_D A [(hm, .inr (3, [.int sc, .ref hw, .int (nI cn), .int (nI fu), .int lf, .int (bI dd), .int dn, .int rn, .int (bI tr), .int (nI lg), .ref he, .int me, .ref hd, .ref hen, .ref hnd])), (hw, .inl (cI, 160, .inl M)), (hd, .inl (cI, 6, .inl dg_4)), (hen, .inl (cI, 6, .inl ed_3)), (hnd, .inl (cI, 16, .inl nd_3))] := hD.sub [2, 3, 4, 0, 1] (by decide) rfl
      clear hPc hDc hFc hP1 hD1 zk zz zvm zt
      have hdg : ∀ i, i < 6 → dg_4 i = nI (dgt (ms4 (fun i => M (b + i))) i) := by rw [← hu_4]; exact digs_at _ _
      refine lv_iconst (v := (nI 0)) hx hb d_Mo_signed_31 (by decide) ?_
      refine lv_istore (lv' := [(4, .int (nI 0)), (3, .int (root sc)), (2, .int (M (b + 4))), (0, .ref hm), (1, .int (nI b))]) hx hb d_Mo_signed_32 hl (by decide) rfl (fun ls hl => ?_)
      refine lv_iload hx hb d_Mo_signed_34 (lv_at hl 0 rfl) ?_
      refine lv_bipush (v := (nI 6)) hx hb d_Mo_signed_36 (by decide) ?_
      refine nb_ge (tgt := 79) hx hb d_Mo_signed_38 (by decide) (by decide) (by decide) (fun h_5 => ?_) (fun h_5 => ?_)
      · exact absurd h_5 (by decide)
      · refine lv_aload_n hx hb d_Mo_signed_41 rfl (lv_at hl 3 rfl) ?_
        refine va_get (D := (dC, dI)) (ci := 3) (v := .ref hen) (C := R_Mo) (T := F_Mo) (N := 15) hx hb hts in_Mo hown hK hP 0 rfl rfl 13 (by decide) (hts _ kw_452) (fun _ h9 => h9) rfl d_Mo_signed_42 ?_
        refine lv_iload hx hb d_Mo_signed_45 (lv_at hl 0 rfl) ?_
        refine lv_aload_n hx hb d_Mo_signed_47 rfl (lv_at hl 3 rfl) ?_
        refine va_get (D := (dC, dI)) (ci := 3) (v := .ref hw) (C := R_Mo) (T := F_Mo) (N := 15) hx hb hts in_Mo hown hK hP 0 rfl rfl 1 (by decide) (hts _ kw_440) (fun _ h9 => h9) rfl d_Mo_signed_48 ?_
        refine lv_iload_n hx hb d_Mo_signed_51 rfl (lv_at hl 4 rfl) ?_
        refine lv_iconst (v := (nI 5)) hx hb d_Mo_signed_52 (by decide) ?_
        refine lv_iadd hx hb d_Mo_signed_53 ?_
        refine tp (nI_add _ _) ?_
        refine lv_iload hx hb d_Mo_signed_54 (lv_at hl 0 rfl) ?_
        refine lv_iadd hx hb d_Mo_signed_56 ?_
        refine tp (y := (nI (b + 5))) (nI_add _ _) ?_
        refine ar_ld (k := b + 5) hx hb hK hP 1 0 rfl rfl (by omega) (by first | decide | omega) d_Mo_signed_57 ?_
        refine lv_iload hx hb d_Mo_signed_58 (lv_at hl 0 rfl) ?_
        refine lv_aload_n hx hb d_Mo_signed_60 rfl (lv_at hl 3 rfl) ?_
        refine va_get (D := (dC, dI)) (ci := 3) (v := .ref hd) (C := R_Mo) (T := F_Mo) (N := 15) hx hb hts in_Mo hown hK hP 0 rfl rfl 12 (by decide) (hts _ kw_451) (fun _ h9 => h9) rfl d_Mo_signed_61 ?_
        refine lv_iload hx hb d_Mo_signed_64 (lv_at hl 0 rfl) ?_
        refine ar_ld (k := 0) hx hb hK hP 2 0 rfl rfl (by omega) (by first | decide | omega) d_Mo_signed_66 ?_
        refine tp (hdg 0 (by decide)) ?_
        refine lv_bipush (v := (nI 15)) hx hb d_Mo_signed_67 (by decide) ?_
        refine pr_call (va_runS (As := [.int (M (b + 5)), .int (nI 0), .int (nI (dgt (ms4 (fun i => M (b + i))) 0)), .int (nI 15)]) (rest := [.int (nI 0), .ref hen]) ⟨hx, hb, hml, hown, hts⟩ (c_Mo_along l dC dI cI (x := M (b + 5)) (ch := 0) (fr := dgt (ms4 (fun i => M (b + i))) 0) (to := 15) (hfr := (by first | omega | exact dgt_le _ _)) (hto := (by first | omega | exact dgt_le _ _))) ⟨callB_of 4 hts (gd kw_424) rfl rfl rfl (hts _ kw_41) (hts _ kw_422) (by decide +kernel) ⟨Nat.le_of_ble_eq_true rfl, Nat.le_of_ble_eq_true rfl⟩, (hts _ kw_423)⟩ ⟨fun a U g mk q => by obtain ⟨q0, qP, qK⟩ := q; exact ⟨q0, qP, qK.call⟩, fun U hU hW => ⟨rfl, by rw [hU]; exact hP.sub [] rfl, hKN.warm hW⟩⟩ rfl rfl hl.1 rfl (lv_room (Nat.le_of_ble_eq_true rfl)) d_Mo_signed_69 ⟨Nat.zero_le _, Nat.zero_le _⟩) ?_
        refine ar_st (k := 0) hx hb hK hP hD hS 3 0 rfl rfl (by omega) (by first | decide | omega) d_Mo_signed_72 (fun H locs hP hD hS => ?_)
        have hP : va_P (dC, dI) classes [(hm, .inr (3, [.int sc, .ref hw, .int (nI cn), .int (nI fu), .int lf, .int (bI dd), .int dn, .int rn, .int (bI tr), .int (nI lg), .ref he, .int me, .ref hd, .ref hen, .ref hnd])), (hw, .inl (cI, 160, .inl M)), (hd, .inl (cI, 6, .inl dg_4)), (hen, .inl (cI, 6, .inl (upd ed_3 0 (al 0 (15 - (dgt (ms4 (fun i => M (b + i))) 0)) (dgt (ms4 (fun i => M (b + i))) 0) (M (b + 5)))))), (hnd, .inl (cI, 16, .inl nd_3))] H := hP
        have hD : va_D A [(hm, .inr (3, [.int sc, .ref hw, .int (nI cn), .int (nI fu), .int lf, .int (bI dd), .int dn, .int rn, .int (bI tr), .int (nI lg), .ref he, .int me, .ref hd, .ref hen, .ref hnd])), (hw, .inl (cI, 160, .inl M)), (hd, .inl (cI, 6, .inl dg_4)), (hen, .inl (cI, 6, .inl (upd ed_3 0 (al 0 (15 - (dgt (ms4 (fun i => M (b + i))) 0)) (dgt (ms4 (fun i => M (b + i))) 0) (M (b + 5)))))), (hnd, .inl (cI, 16, .inl nd_3))] := hD
        refine lv_iinc (k := 0) (v := (nI 1)) (lv' := [(4, .int (nI 1)), (3, .int (root sc)), (2, .int (M (b + 4))), (0, .ref hm), (1, .int (nI b))]) hx hb d_Mo_signed_73 hl rfl (by decide) (by decide) rfl (fun ls hl => ?_)
        refine lv_goto (tgt := 34) hx hb d_Mo_signed_76 (by decide) ?_
        refine lv_iload hx hb d_Mo_signed_34 (lv_at hl 0 rfl) ?_
        refine lv_bipush (v := (nI 6)) hx hb d_Mo_signed_36 (by decide) ?_
        refine nb_ge (tgt := 79) hx hb d_Mo_signed_38 (by decide) (by decide) (by decide) (fun h_6 => ?_) (fun h_6 => ?_)
        · exact absurd h_6 (by decide)
        · refine lv_aload_n hx hb d_Mo_signed_41 rfl (lv_at hl 3 rfl) ?_
          refine va_get (D := (dC, dI)) (ci := 3) (v := .ref hen) (C := R_Mo) (T := F_Mo) (N := 15) hx hb hts in_Mo hown hK hP 0 rfl rfl 13 (by decide) (hts _ kw_452) (fun _ h9 => h9) rfl d_Mo_signed_42 ?_
          refine lv_iload hx hb d_Mo_signed_45 (lv_at hl 0 rfl) ?_
          refine lv_aload_n hx hb d_Mo_signed_47 rfl (lv_at hl 3 rfl) ?_
          refine va_get (D := (dC, dI)) (ci := 3) (v := .ref hw) (C := R_Mo) (T := F_Mo) (N := 15) hx hb hts in_Mo hown hK hP 0 rfl rfl 1 (by decide) (hts _ kw_440) (fun _ h9 => h9) rfl d_Mo_signed_48 ?_
          refine lv_iload_n hx hb d_Mo_signed_51 rfl (lv_at hl 4 rfl) ?_
          refine lv_iconst (v := (nI 5)) hx hb d_Mo_signed_52 (by decide) ?_
          refine lv_iadd hx hb d_Mo_signed_53 ?_
          refine tp (nI_add _ _) ?_
          refine lv_iload hx hb d_Mo_signed_54 (lv_at hl 0 rfl) ?_
          refine lv_iadd hx hb d_Mo_signed_56 ?_
          refine tp (y := (nI (b + 6))) (nI_add _ _) ?_
          refine ar_ld (k := b + 6) hx hb hK hP 1 0 rfl rfl (by omega) (by first | decide | omega) d_Mo_signed_57 ?_
          refine lv_iload hx hb d_Mo_signed_58 (lv_at hl 0 rfl) ?_
          refine lv_aload_n hx hb d_Mo_signed_60 rfl (lv_at hl 3 rfl) ?_
          refine va_get (D := (dC, dI)) (ci := 3) (v := .ref hd) (C := R_Mo) (T := F_Mo) (N := 15) hx hb hts in_Mo hown hK hP 0 rfl rfl 12 (by decide) (hts _ kw_451) (fun _ h9 => h9) rfl d_Mo_signed_61 ?_
          refine lv_iload hx hb d_Mo_signed_64 (lv_at hl 0 rfl) ?_
          refine ar_ld (k := 1) hx hb hK hP 2 0 rfl rfl (by omega) (by first | decide | omega) d_Mo_signed_66 ?_
          refine tp (hdg 1 (by decide)) ?_
          refine lv_bipush (v := (nI 15)) hx hb d_Mo_signed_67 (by decide) ?_
          refine pr_call (va_runS (As := [.int (M (b + 6)), .int (nI 1), .int (nI (dgt (ms4 (fun i => M (b + i))) 1)), .int (nI 15)]) (rest := [.int (nI 1), .ref hen]) ⟨hx, hb, hml, hown, hts⟩ (c_Mo_along l dC dI cI (x := M (b + 6)) (ch := 1) (fr := dgt (ms4 (fun i => M (b + i))) 1) (to := 15) (hfr := (by first | omega | exact dgt_le _ _)) (hto := (by first | omega | exact dgt_le _ _))) ⟨callB_of 4 hts (gd kw_424) rfl rfl rfl (hts _ kw_41) (hts _ kw_422) (by decide +kernel) ⟨Nat.le_of_ble_eq_true rfl, Nat.le_of_ble_eq_true rfl⟩, (hts _ kw_423)⟩ ⟨fun a U g mk q => by obtain ⟨q0, qP, qK⟩ := q; exact ⟨q0, qP, qK.call⟩, fun U hU hW => ⟨rfl, by rw [hU]; exact hP.sub [] rfl, hKN.warm hW⟩⟩ rfl rfl hl.1 rfl (lv_room (Nat.le_of_ble_eq_true rfl)) d_Mo_signed_69 ⟨Nat.zero_le _, Nat.zero_le _⟩) ?_
          refine ar_st (k := 1) hx hb hK hP hD hS 3 0 rfl rfl (by omega) (by first | decide | omega) d_Mo_signed_72 (fun H locs hP hD hS => ?_)
          have hP : va_P (dC, dI) classes [(hm, .inr (3, [.int sc, .ref hw, .int (nI cn), .int (nI fu), .int lf, .int (bI dd), .int dn, .int rn, .int (bI tr), .int (nI lg), .ref he, .int me, .ref hd, .ref hen, .ref hnd])), (hw, .inl (cI, 160, .inl M)), (hd, .inl (cI, 6, .inl dg_4)), (hen, .inl (cI, 6, .inl (upd (upd ed_3 0 (al 0 (15 - (dgt (ms4 (fun i => M (b + i))) 0)) (dgt (ms4 (fun i => M (b + i))) 0) (M (b + 5)))) 1 (al 1 (15 - (dgt (ms4 (fun i => M (b + i))) 1)) (dgt (ms4 (fun i => M (b + i))) 1) (M (b + 6)))))), (hnd, .inl (cI, 16, .inl nd_3))] H := hP
          have hD : va_D A [(hm, .inr (3, [.int sc, .ref hw, .int (nI cn), .int (nI fu), .int lf, .int (bI dd), .int dn, .int rn, .int (bI tr), .int (nI lg), .ref he, .int me, .ref hd, .ref hen, .ref hnd])), (hw, .inl (cI, 160, .inl M)), (hd, .inl (cI, 6, .inl dg_4)), (hen, .inl (cI, 6, .inl (upd (upd ed_3 0 (al 0 (15 - (dgt (ms4 (fun i => M (b + i))) 0)) (dgt (ms4 (fun i => M (b + i))) 0) (M (b + 5)))) 1 (al 1 (15 - (dgt (ms4 (fun i => M (b + i))) 1)) (dgt (ms4 (fun i => M (b + i))) 1) (M (b + 6)))))), (hnd, .inl (cI, 16, .inl nd_3))] := hD
          refine lv_iinc (k := 0) (v := (nI 2)) (lv' := [(4, .int (nI 2)), (3, .int (root sc)), (2, .int (M (b + 4))), (0, .ref hm), (1, .int (nI b))]) hx hb d_Mo_signed_73 hl rfl (by decide) (by decide) rfl (fun ls hl => ?_)
          refine lv_goto (tgt := 34) hx hb d_Mo_signed_76 (by decide) ?_
          refine lv_iload hx hb d_Mo_signed_34 (lv_at hl 0 rfl) ?_
          refine lv_bipush (v := (nI 6)) hx hb d_Mo_signed_36 (by decide) ?_
          refine nb_ge (tgt := 79) hx hb d_Mo_signed_38 (by decide) (by decide) (by decide) (fun h_7 => ?_) (fun h_7 => ?_)
          · exact absurd h_7 (by decide)
          · refine lv_aload_n hx hb d_Mo_signed_41 rfl (lv_at hl 3 rfl) ?_
            refine va_get (D := (dC, dI)) (ci := 3) (v := .ref hen) (C := R_Mo) (T := F_Mo) (N := 15) hx hb hts in_Mo hown hK hP 0 rfl rfl 13 (by decide) (hts _ kw_452) (fun _ h9 => h9) rfl d_Mo_signed_42 ?_
            refine lv_iload hx hb d_Mo_signed_45 (lv_at hl 0 rfl) ?_
            refine lv_aload_n hx hb d_Mo_signed_47 rfl (lv_at hl 3 rfl) ?_
            refine va_get (D := (dC, dI)) (ci := 3) (v := .ref hw) (C := R_Mo) (T := F_Mo) (N := 15) hx hb hts in_Mo hown hK hP 0 rfl rfl 1 (by decide) (hts _ kw_440) (fun _ h9 => h9) rfl d_Mo_signed_48 ?_
            refine lv_iload_n hx hb d_Mo_signed_51 rfl (lv_at hl 4 rfl) ?_
            refine lv_iconst (v := (nI 5)) hx hb d_Mo_signed_52 (by decide) ?_
            refine lv_iadd hx hb d_Mo_signed_53 ?_
            refine tp (nI_add _ _) ?_
            refine lv_iload hx hb d_Mo_signed_54 (lv_at hl 0 rfl) ?_
            refine lv_iadd hx hb d_Mo_signed_56 ?_
            refine tp (y := (nI (b + 7))) (nI_add _ _) ?_
            refine ar_ld (k := b + 7) hx hb hK hP 1 0 rfl rfl (by omega) (by first | decide | omega) d_Mo_signed_57 ?_
            refine lv_iload hx hb d_Mo_signed_58 (lv_at hl 0 rfl) ?_
            refine lv_aload_n hx hb d_Mo_signed_60 rfl (lv_at hl 3 rfl) ?_
            refine va_get (D := (dC, dI)) (ci := 3) (v := .ref hd) (C := R_Mo) (T := F_Mo) (N := 15) hx hb hts in_Mo hown hK hP 0 rfl rfl 12 (by decide) (hts _ kw_451) (fun _ h9 => h9) rfl d_Mo_signed_61 ?_
            refine lv_iload hx hb d_Mo_signed_64 (lv_at hl 0 rfl) ?_
            refine ar_ld (k := 2) hx hb hK hP 2 0 rfl rfl (by omega) (by first | decide | omega) d_Mo_signed_66 ?_
            refine tp (hdg 2 (by decide)) ?_
            refine lv_bipush (v := (nI 15)) hx hb d_Mo_signed_67 (by decide) ?_
            refine pr_call (va_runS (As := [.int (M (b + 7)), .int (nI 2), .int (nI (dgt (ms4 (fun i => M (b + i))) 2)), .int (nI 15)]) (rest := [.int (nI 2), .ref hen]) ⟨hx, hb, hml, hown, hts⟩ (c_Mo_along l dC dI cI (x := M (b + 7)) (ch := 2) (fr := dgt (ms4 (fun i => M (b + i))) 2) (to := 15) (hfr := (by first | omega | exact dgt_le _ _)) (hto := (by first | omega | exact dgt_le _ _))) ⟨callB_of 4 hts (gd kw_424) rfl rfl rfl (hts _ kw_41) (hts _ kw_422) (by decide +kernel) ⟨Nat.le_of_ble_eq_true rfl, Nat.le_of_ble_eq_true rfl⟩, (hts _ kw_423)⟩ ⟨fun a U g mk q => by obtain ⟨q0, qP, qK⟩ := q; exact ⟨q0, qP, qK.call⟩, fun U hU hW => ⟨rfl, by rw [hU]; exact hP.sub [] rfl, hKN.warm hW⟩⟩ rfl rfl hl.1 rfl (lv_room (Nat.le_of_ble_eq_true rfl)) d_Mo_signed_69 ⟨Nat.zero_le _, Nat.zero_le _⟩) ?_
            refine ar_st (k := 2) hx hb hK hP hD hS 3 0 rfl rfl (by omega) (by first | decide | omega) d_Mo_signed_72 (fun H locs hP hD hS => ?_)
            have hP : va_P (dC, dI) classes [(hm, .inr (3, [.int sc, .ref hw, .int (nI cn), .int (nI fu), .int lf, .int (bI dd), .int dn, .int rn, .int (bI tr), .int (nI lg), .ref he, .int me, .ref hd, .ref hen, .ref hnd])), (hw, .inl (cI, 160, .inl M)), (hd, .inl (cI, 6, .inl dg_4)), (hen, .inl (cI, 6, .inl (upd (upd (upd ed_3 0 (al 0 (15 - (dgt (ms4 (fun i => M (b + i))) 0)) (dgt (ms4 (fun i => M (b + i))) 0) (M (b + 5)))) 1 (al 1 (15 - (dgt (ms4 (fun i => M (b + i))) 1)) (dgt (ms4 (fun i => M (b + i))) 1) (M (b + 6)))) 2 (al 2 (15 - (dgt (ms4 (fun i => M (b + i))) 2)) (dgt (ms4 (fun i => M (b + i))) 2) (M (b + 7)))))), (hnd, .inl (cI, 16, .inl nd_3))] H := hP
            have hD : va_D A [(hm, .inr (3, [.int sc, .ref hw, .int (nI cn), .int (nI fu), .int lf, .int (bI dd), .int dn, .int rn, .int (bI tr), .int (nI lg), .ref he, .int me, .ref hd, .ref hen, .ref hnd])), (hw, .inl (cI, 160, .inl M)), (hd, .inl (cI, 6, .inl dg_4)), (hen, .inl (cI, 6, .inl (upd (upd (upd ed_3 0 (al 0 (15 - (dgt (ms4 (fun i => M (b + i))) 0)) (dgt (ms4 (fun i => M (b + i))) 0) (M (b + 5)))) 1 (al 1 (15 - (dgt (ms4 (fun i => M (b + i))) 1)) (dgt (ms4 (fun i => M (b + i))) 1) (M (b + 6)))) 2 (al 2 (15 - (dgt (ms4 (fun i => M (b + i))) 2)) (dgt (ms4 (fun i => M (b + i))) 2) (M (b + 7)))))), (hnd, .inl (cI, 16, .inl nd_3))] := hD
            refine lv_iinc (k := 0) (v := (nI 3)) (lv' := [(4, .int (nI 3)), (3, .int (root sc)), (2, .int (M (b + 4))), (0, .ref hm), (1, .int (nI b))]) hx hb d_Mo_signed_73 hl rfl (by decide) (by decide) rfl (fun ls hl => ?_)
            refine lv_goto (tgt := 34) hx hb d_Mo_signed_76 (by decide) ?_
            refine lv_iload hx hb d_Mo_signed_34 (lv_at hl 0 rfl) ?_
            refine lv_bipush (v := (nI 6)) hx hb d_Mo_signed_36 (by decide) ?_
            refine nb_ge (tgt := 79) hx hb d_Mo_signed_38 (by decide) (by decide) (by decide) (fun h_8 => ?_) (fun h_8 => ?_)
            · exact absurd h_8 (by decide)
            · refine lv_aload_n hx hb d_Mo_signed_41 rfl (lv_at hl 3 rfl) ?_
              refine va_get (D := (dC, dI)) (ci := 3) (v := .ref hen) (C := R_Mo) (T := F_Mo) (N := 15) hx hb hts in_Mo hown hK hP 0 rfl rfl 13 (by decide) (hts _ kw_452) (fun _ h9 => h9) rfl d_Mo_signed_42 ?_
              refine lv_iload hx hb d_Mo_signed_45 (lv_at hl 0 rfl) ?_
              refine lv_aload_n hx hb d_Mo_signed_47 rfl (lv_at hl 3 rfl) ?_
              refine va_get (D := (dC, dI)) (ci := 3) (v := .ref hw) (C := R_Mo) (T := F_Mo) (N := 15) hx hb hts in_Mo hown hK hP 0 rfl rfl 1 (by decide) (hts _ kw_440) (fun _ h9 => h9) rfl d_Mo_signed_48 ?_
              refine lv_iload_n hx hb d_Mo_signed_51 rfl (lv_at hl 4 rfl) ?_
              refine lv_iconst (v := (nI 5)) hx hb d_Mo_signed_52 (by decide) ?_
              refine lv_iadd hx hb d_Mo_signed_53 ?_
              refine tp (nI_add _ _) ?_
              refine lv_iload hx hb d_Mo_signed_54 (lv_at hl 0 rfl) ?_
              refine lv_iadd hx hb d_Mo_signed_56 ?_
              refine tp (y := (nI (b + 8))) (nI_add _ _) ?_
              refine ar_ld (k := b + 8) hx hb hK hP 1 0 rfl rfl (by omega) (by first | decide | omega) d_Mo_signed_57 ?_
              refine lv_iload hx hb d_Mo_signed_58 (lv_at hl 0 rfl) ?_
              refine lv_aload_n hx hb d_Mo_signed_60 rfl (lv_at hl 3 rfl) ?_
              refine va_get (D := (dC, dI)) (ci := 3) (v := .ref hd) (C := R_Mo) (T := F_Mo) (N := 15) hx hb hts in_Mo hown hK hP 0 rfl rfl 12 (by decide) (hts _ kw_451) (fun _ h9 => h9) rfl d_Mo_signed_61 ?_
              refine lv_iload hx hb d_Mo_signed_64 (lv_at hl 0 rfl) ?_
              refine ar_ld (k := 3) hx hb hK hP 2 0 rfl rfl (by omega) (by first | decide | omega) d_Mo_signed_66 ?_
              refine tp (hdg 3 (by decide)) ?_
              refine lv_bipush (v := (nI 15)) hx hb d_Mo_signed_67 (by decide) ?_
              refine pr_call (va_runS (As := [.int (M (b + 8)), .int (nI 3), .int (nI (dgt (ms4 (fun i => M (b + i))) 3)), .int (nI 15)]) (rest := [.int (nI 3), .ref hen]) ⟨hx, hb, hml, hown, hts⟩ (c_Mo_along l dC dI cI (x := M (b + 8)) (ch := 3) (fr := dgt (ms4 (fun i => M (b + i))) 3) (to := 15) (hfr := (by first | omega | exact dgt_le _ _)) (hto := (by first | omega | exact dgt_le _ _))) ⟨callB_of 4 hts (gd kw_424) rfl rfl rfl (hts _ kw_41) (hts _ kw_422) (by decide +kernel) ⟨Nat.le_of_ble_eq_true rfl, Nat.le_of_ble_eq_true rfl⟩, (hts _ kw_423)⟩ ⟨fun a U g mk q => by obtain ⟨q0, qP, qK⟩ := q; exact ⟨q0, qP, qK.call⟩, fun U hU hW => ⟨rfl, by rw [hU]; exact hP.sub [] rfl, hKN.warm hW⟩⟩ rfl rfl hl.1 rfl (lv_room (Nat.le_of_ble_eq_true rfl)) d_Mo_signed_69 ⟨Nat.zero_le _, Nat.zero_le _⟩) ?_
              refine ar_st (k := 3) hx hb hK hP hD hS 3 0 rfl rfl (by omega) (by first | decide | omega) d_Mo_signed_72 (fun H locs hP hD hS => ?_)
              have hP : va_P (dC, dI) classes [(hm, .inr (3, [.int sc, .ref hw, .int (nI cn), .int (nI fu), .int lf, .int (bI dd), .int dn, .int rn, .int (bI tr), .int (nI lg), .ref he, .int me, .ref hd, .ref hen, .ref hnd])), (hw, .inl (cI, 160, .inl M)), (hd, .inl (cI, 6, .inl dg_4)), (hen, .inl (cI, 6, .inl (upd (upd (upd (upd ed_3 0 (al 0 (15 - (dgt (ms4 (fun i => M (b + i))) 0)) (dgt (ms4 (fun i => M (b + i))) 0) (M (b + 5)))) 1 (al 1 (15 - (dgt (ms4 (fun i => M (b + i))) 1)) (dgt (ms4 (fun i => M (b + i))) 1) (M (b + 6)))) 2 (al 2 (15 - (dgt (ms4 (fun i => M (b + i))) 2)) (dgt (ms4 (fun i => M (b + i))) 2) (M (b + 7)))) 3 (al 3 (15 - (dgt (ms4 (fun i => M (b + i))) 3)) (dgt (ms4 (fun i => M (b + i))) 3) (M (b + 8)))))), (hnd, .inl (cI, 16, .inl nd_3))] H := hP
              have hD : va_D A [(hm, .inr (3, [.int sc, .ref hw, .int (nI cn), .int (nI fu), .int lf, .int (bI dd), .int dn, .int rn, .int (bI tr), .int (nI lg), .ref he, .int me, .ref hd, .ref hen, .ref hnd])), (hw, .inl (cI, 160, .inl M)), (hd, .inl (cI, 6, .inl dg_4)), (hen, .inl (cI, 6, .inl (upd (upd (upd (upd ed_3 0 (al 0 (15 - (dgt (ms4 (fun i => M (b + i))) 0)) (dgt (ms4 (fun i => M (b + i))) 0) (M (b + 5)))) 1 (al 1 (15 - (dgt (ms4 (fun i => M (b + i))) 1)) (dgt (ms4 (fun i => M (b + i))) 1) (M (b + 6)))) 2 (al 2 (15 - (dgt (ms4 (fun i => M (b + i))) 2)) (dgt (ms4 (fun i => M (b + i))) 2) (M (b + 7)))) 3 (al 3 (15 - (dgt (ms4 (fun i => M (b + i))) 3)) (dgt (ms4 (fun i => M (b + i))) 3) (M (b + 8)))))), (hnd, .inl (cI, 16, .inl nd_3))] := hD
              refine lv_iinc (k := 0) (v := (nI 4)) (lv' := [(4, .int (nI 4)), (3, .int (root sc)), (2, .int (M (b + 4))), (0, .ref hm), (1, .int (nI b))]) hx hb d_Mo_signed_73 hl rfl (by decide) (by decide) rfl (fun ls hl => ?_)
              refine lv_goto (tgt := 34) hx hb d_Mo_signed_76 (by decide) ?_
              refine lv_iload hx hb d_Mo_signed_34 (lv_at hl 0 rfl) ?_
              refine lv_bipush (v := (nI 6)) hx hb d_Mo_signed_36 (by decide) ?_
              refine nb_ge (tgt := 79) hx hb d_Mo_signed_38 (by decide) (by decide) (by decide) (fun h_9 => ?_) (fun h_9 => ?_)
              · exact absurd h_9 (by decide)
              · refine lv_aload_n hx hb d_Mo_signed_41 rfl (lv_at hl 3 rfl) ?_
                refine va_get (D := (dC, dI)) (ci := 3) (v := .ref hen) (C := R_Mo) (T := F_Mo) (N := 15) hx hb hts in_Mo hown hK hP 0 rfl rfl 13 (by decide) (hts _ kw_452) (fun _ h9 => h9) rfl d_Mo_signed_42 ?_
                refine lv_iload hx hb d_Mo_signed_45 (lv_at hl 0 rfl) ?_
                refine lv_aload_n hx hb d_Mo_signed_47 rfl (lv_at hl 3 rfl) ?_
                refine va_get (D := (dC, dI)) (ci := 3) (v := .ref hw) (C := R_Mo) (T := F_Mo) (N := 15) hx hb hts in_Mo hown hK hP 0 rfl rfl 1 (by decide) (hts _ kw_440) (fun _ h9 => h9) rfl d_Mo_signed_48 ?_
                refine lv_iload_n hx hb d_Mo_signed_51 rfl (lv_at hl 4 rfl) ?_
                refine lv_iconst (v := (nI 5)) hx hb d_Mo_signed_52 (by decide) ?_
                refine lv_iadd hx hb d_Mo_signed_53 ?_
                refine tp (nI_add _ _) ?_
                refine lv_iload hx hb d_Mo_signed_54 (lv_at hl 0 rfl) ?_
                refine lv_iadd hx hb d_Mo_signed_56 ?_
                refine tp (y := (nI (b + 9))) (nI_add _ _) ?_
                refine ar_ld (k := b + 9) hx hb hK hP 1 0 rfl rfl (by omega) (by first | decide | omega) d_Mo_signed_57 ?_
                refine lv_iload hx hb d_Mo_signed_58 (lv_at hl 0 rfl) ?_
                refine lv_aload_n hx hb d_Mo_signed_60 rfl (lv_at hl 3 rfl) ?_
                refine va_get (D := (dC, dI)) (ci := 3) (v := .ref hd) (C := R_Mo) (T := F_Mo) (N := 15) hx hb hts in_Mo hown hK hP 0 rfl rfl 12 (by decide) (hts _ kw_451) (fun _ h9 => h9) rfl d_Mo_signed_61 ?_
                refine lv_iload hx hb d_Mo_signed_64 (lv_at hl 0 rfl) ?_
                refine ar_ld (k := 4) hx hb hK hP 2 0 rfl rfl (by omega) (by first | decide | omega) d_Mo_signed_66 ?_
                refine tp (hdg 4 (by decide)) ?_
                refine lv_bipush (v := (nI 15)) hx hb d_Mo_signed_67 (by decide) ?_
                refine pr_call (va_runS (As := [.int (M (b + 9)), .int (nI 4), .int (nI (dgt (ms4 (fun i => M (b + i))) 4)), .int (nI 15)]) (rest := [.int (nI 4), .ref hen]) ⟨hx, hb, hml, hown, hts⟩ (c_Mo_along l dC dI cI (x := M (b + 9)) (ch := 4) (fr := dgt (ms4 (fun i => M (b + i))) 4) (to := 15) (hfr := (by first | omega | exact dgt_le _ _)) (hto := (by first | omega | exact dgt_le _ _))) ⟨callB_of 4 hts (gd kw_424) rfl rfl rfl (hts _ kw_41) (hts _ kw_422) (by decide +kernel) ⟨Nat.le_of_ble_eq_true rfl, Nat.le_of_ble_eq_true rfl⟩, (hts _ kw_423)⟩ ⟨fun a U g mk q => by obtain ⟨q0, qP, qK⟩ := q; exact ⟨q0, qP, qK.call⟩, fun U hU hW => ⟨rfl, by rw [hU]; exact hP.sub [] rfl, hKN.warm hW⟩⟩ rfl rfl hl.1 rfl (lv_room (Nat.le_of_ble_eq_true rfl)) d_Mo_signed_69 ⟨Nat.zero_le _, Nat.zero_le _⟩) ?_
                refine ar_st (k := 4) hx hb hK hP hD hS 3 0 rfl rfl (by omega) (by first | decide | omega) d_Mo_signed_72 (fun H locs hP hD hS => ?_)
                have hP : va_P (dC, dI) classes [(hm, .inr (3, [.int sc, .ref hw, .int (nI cn), .int (nI fu), .int lf, .int (bI dd), .int dn, .int rn, .int (bI tr), .int (nI lg), .ref he, .int me, .ref hd, .ref hen, .ref hnd])), (hw, .inl (cI, 160, .inl M)), (hd, .inl (cI, 6, .inl dg_4)), (hen, .inl (cI, 6, .inl (upd (upd (upd (upd (upd ed_3 0 (al 0 (15 - (dgt (ms4 (fun i => M (b + i))) 0)) (dgt (ms4 (fun i => M (b + i))) 0) (M (b + 5)))) 1 (al 1 (15 - (dgt (ms4 (fun i => M (b + i))) 1)) (dgt (ms4 (fun i => M (b + i))) 1) (M (b + 6)))) 2 (al 2 (15 - (dgt (ms4 (fun i => M (b + i))) 2)) (dgt (ms4 (fun i => M (b + i))) 2) (M (b + 7)))) 3 (al 3 (15 - (dgt (ms4 (fun i => M (b + i))) 3)) (dgt (ms4 (fun i => M (b + i))) 3) (M (b + 8)))) 4 (al 4 (15 - (dgt (ms4 (fun i => M (b + i))) 4)) (dgt (ms4 (fun i => M (b + i))) 4) (M (b + 9)))))), (hnd, .inl (cI, 16, .inl nd_3))] H := hP
                have hD : va_D A [(hm, .inr (3, [.int sc, .ref hw, .int (nI cn), .int (nI fu), .int lf, .int (bI dd), .int dn, .int rn, .int (bI tr), .int (nI lg), .ref he, .int me, .ref hd, .ref hen, .ref hnd])), (hw, .inl (cI, 160, .inl M)), (hd, .inl (cI, 6, .inl dg_4)), (hen, .inl (cI, 6, .inl (upd (upd (upd (upd (upd ed_3 0 (al 0 (15 - (dgt (ms4 (fun i => M (b + i))) 0)) (dgt (ms4 (fun i => M (b + i))) 0) (M (b + 5)))) 1 (al 1 (15 - (dgt (ms4 (fun i => M (b + i))) 1)) (dgt (ms4 (fun i => M (b + i))) 1) (M (b + 6)))) 2 (al 2 (15 - (dgt (ms4 (fun i => M (b + i))) 2)) (dgt (ms4 (fun i => M (b + i))) 2) (M (b + 7)))) 3 (al 3 (15 - (dgt (ms4 (fun i => M (b + i))) 3)) (dgt (ms4 (fun i => M (b + i))) 3) (M (b + 8)))) 4 (al 4 (15 - (dgt (ms4 (fun i => M (b + i))) 4)) (dgt (ms4 (fun i => M (b + i))) 4) (M (b + 9)))))), (hnd, .inl (cI, 16, .inl nd_3))] := hD
                refine lv_iinc (k := 0) (v := (nI 5)) (lv' := [(4, .int (nI 5)), (3, .int (root sc)), (2, .int (M (b + 4))), (0, .ref hm), (1, .int (nI b))]) hx hb d_Mo_signed_73 hl rfl (by decide) (by decide) rfl (fun ls hl => ?_)
                refine lv_goto (tgt := 34) hx hb d_Mo_signed_76 (by decide) ?_
                refine lv_iload hx hb d_Mo_signed_34 (lv_at hl 0 rfl) ?_
                refine lv_bipush (v := (nI 6)) hx hb d_Mo_signed_36 (by decide) ?_
                refine nb_ge (tgt := 79) hx hb d_Mo_signed_38 (by decide) (by decide) (by decide) (fun h_10 => ?_) (fun h_10 => ?_)
                · exact absurd h_10 (by decide)
                · refine lv_aload_n hx hb d_Mo_signed_41 rfl (lv_at hl 3 rfl) ?_
                  refine va_get (D := (dC, dI)) (ci := 3) (v := .ref hen) (C := R_Mo) (T := F_Mo) (N := 15) hx hb hts in_Mo hown hK hP 0 rfl rfl 13 (by decide) (hts _ kw_452) (fun _ h9 => h9) rfl d_Mo_signed_42 ?_
                  refine lv_iload hx hb d_Mo_signed_45 (lv_at hl 0 rfl) ?_
                  refine lv_aload_n hx hb d_Mo_signed_47 rfl (lv_at hl 3 rfl) ?_
                  refine va_get (D := (dC, dI)) (ci := 3) (v := .ref hw) (C := R_Mo) (T := F_Mo) (N := 15) hx hb hts in_Mo hown hK hP 0 rfl rfl 1 (by decide) (hts _ kw_440) (fun _ h9 => h9) rfl d_Mo_signed_48 ?_
                  refine lv_iload_n hx hb d_Mo_signed_51 rfl (lv_at hl 4 rfl) ?_
                  refine lv_iconst (v := (nI 5)) hx hb d_Mo_signed_52 (by decide) ?_
                  refine lv_iadd hx hb d_Mo_signed_53 ?_
                  refine tp (nI_add _ _) ?_
                  refine lv_iload hx hb d_Mo_signed_54 (lv_at hl 0 rfl) ?_
                  refine lv_iadd hx hb d_Mo_signed_56 ?_
                  refine tp (y := (nI (b + 10))) (nI_add _ _) ?_
                  refine ar_ld (k := b + 10) hx hb hK hP 1 0 rfl rfl (by omega) (by first | decide | omega) d_Mo_signed_57 ?_
                  refine lv_iload hx hb d_Mo_signed_58 (lv_at hl 0 rfl) ?_
                  refine lv_aload_n hx hb d_Mo_signed_60 rfl (lv_at hl 3 rfl) ?_
                  refine va_get (D := (dC, dI)) (ci := 3) (v := .ref hd) (C := R_Mo) (T := F_Mo) (N := 15) hx hb hts in_Mo hown hK hP 0 rfl rfl 12 (by decide) (hts _ kw_451) (fun _ h9 => h9) rfl d_Mo_signed_61 ?_
                  refine lv_iload hx hb d_Mo_signed_64 (lv_at hl 0 rfl) ?_
                  refine ar_ld (k := 5) hx hb hK hP 2 0 rfl rfl (by omega) (by first | decide | omega) d_Mo_signed_66 ?_
                  refine tp (hdg 5 (by decide)) ?_
                  refine lv_bipush (v := (nI 15)) hx hb d_Mo_signed_67 (by decide) ?_
                  refine pr_call (va_runS (As := [.int (M (b + 10)), .int (nI 5), .int (nI (dgt (ms4 (fun i => M (b + i))) 5)), .int (nI 15)]) (rest := [.int (nI 5), .ref hen]) ⟨hx, hb, hml, hown, hts⟩ (c_Mo_along l dC dI cI (x := M (b + 10)) (ch := 5) (fr := dgt (ms4 (fun i => M (b + i))) 5) (to := 15) (hfr := (by first | omega | exact dgt_le _ _)) (hto := (by first | omega | exact dgt_le _ _))) ⟨callB_of 4 hts (gd kw_424) rfl rfl rfl (hts _ kw_41) (hts _ kw_422) (by decide +kernel) ⟨Nat.le_of_ble_eq_true rfl, Nat.le_of_ble_eq_true rfl⟩, (hts _ kw_423)⟩ ⟨fun a U g mk q => by obtain ⟨q0, qP, qK⟩ := q; exact ⟨q0, qP, qK.call⟩, fun U hU hW => ⟨rfl, by rw [hU]; exact hP.sub [] rfl, hKN.warm hW⟩⟩ rfl rfl hl.1 rfl (lv_room (Nat.le_of_ble_eq_true rfl)) d_Mo_signed_69 ⟨Nat.zero_le _, Nat.zero_le _⟩) ?_
                  refine ar_st (k := 5) hx hb hK hP hD hS 3 0 rfl rfl (by omega) (by first | decide | omega) d_Mo_signed_72 (fun H locs hP hD hS => ?_)
                  have hP : va_P (dC, dI) classes [(hm, .inr (3, [.int sc, .ref hw, .int (nI cn), .int (nI fu), .int lf, .int (bI dd), .int dn, .int rn, .int (bI tr), .int (nI lg), .ref he, .int me, .ref hd, .ref hen, .ref hnd])), (hw, .inl (cI, 160, .inl M)), (hd, .inl (cI, 6, .inl dg_4)), (hen, .inl (cI, 6, .inl (upd (upd (upd (upd (upd (upd ed_3 0 (al 0 (15 - (dgt (ms4 (fun i => M (b + i))) 0)) (dgt (ms4 (fun i => M (b + i))) 0) (M (b + 5)))) 1 (al 1 (15 - (dgt (ms4 (fun i => M (b + i))) 1)) (dgt (ms4 (fun i => M (b + i))) 1) (M (b + 6)))) 2 (al 2 (15 - (dgt (ms4 (fun i => M (b + i))) 2)) (dgt (ms4 (fun i => M (b + i))) 2) (M (b + 7)))) 3 (al 3 (15 - (dgt (ms4 (fun i => M (b + i))) 3)) (dgt (ms4 (fun i => M (b + i))) 3) (M (b + 8)))) 4 (al 4 (15 - (dgt (ms4 (fun i => M (b + i))) 4)) (dgt (ms4 (fun i => M (b + i))) 4) (M (b + 9)))) 5 (al 5 (15 - (dgt (ms4 (fun i => M (b + i))) 5)) (dgt (ms4 (fun i => M (b + i))) 5) (M (b + 10)))))), (hnd, .inl (cI, 16, .inl nd_3))] H := hP
                  have hD : va_D A [(hm, .inr (3, [.int sc, .ref hw, .int (nI cn), .int (nI fu), .int lf, .int (bI dd), .int dn, .int rn, .int (bI tr), .int (nI lg), .ref he, .int me, .ref hd, .ref hen, .ref hnd])), (hw, .inl (cI, 160, .inl M)), (hd, .inl (cI, 6, .inl dg_4)), (hen, .inl (cI, 6, .inl (upd (upd (upd (upd (upd (upd ed_3 0 (al 0 (15 - (dgt (ms4 (fun i => M (b + i))) 0)) (dgt (ms4 (fun i => M (b + i))) 0) (M (b + 5)))) 1 (al 1 (15 - (dgt (ms4 (fun i => M (b + i))) 1)) (dgt (ms4 (fun i => M (b + i))) 1) (M (b + 6)))) 2 (al 2 (15 - (dgt (ms4 (fun i => M (b + i))) 2)) (dgt (ms4 (fun i => M (b + i))) 2) (M (b + 7)))) 3 (al 3 (15 - (dgt (ms4 (fun i => M (b + i))) 3)) (dgt (ms4 (fun i => M (b + i))) 3) (M (b + 8)))) 4 (al 4 (15 - (dgt (ms4 (fun i => M (b + i))) 4)) (dgt (ms4 (fun i => M (b + i))) 4) (M (b + 9)))) 5 (al 5 (15 - (dgt (ms4 (fun i => M (b + i))) 5)) (dgt (ms4 (fun i => M (b + i))) 5) (M (b + 10)))))), (hnd, .inl (cI, 16, .inl nd_3))] := hD
                  refine lv_iinc (k := 0) (v := (nI 6)) (lv' := [(4, .int (nI 6)), (3, .int (root sc)), (2, .int (M (b + 4))), (0, .ref hm), (1, .int (nI b))]) hx hb d_Mo_signed_73 hl rfl (by decide) (by decide) rfl (fun ls hl => ?_)
                  refine lv_goto (tgt := 34) hx hb d_Mo_signed_76 (by decide) ?_
                  refine lv_iload hx hb d_Mo_signed_34 (lv_at hl 0 rfl) ?_
                  refine lv_bipush (v := (nI 6)) hx hb d_Mo_signed_36 (by decide) ?_
                  refine nb_ge (tgt := 79) hx hb d_Mo_signed_38 (by decide) (by decide) (by decide) (fun h_11 => ?_) (fun h_11 => ?_)
                  · refine lv_aload_n hx hb d_Mo_signed_79 rfl (lv_at hl 3 rfl) ?_
                    refine lv_iload_n hx hb d_Mo_signed_80 rfl (lv_at hl 2 rfl) ?_
                    refine tp hq ?_
                    refine pr_call (va_runV (As := [.int (nI q)]) (rest := []) ⟨hx, hb, hml, hown, hts⟩ (c_Mo_leaf l dC dI cI (hm := hm) (x := (nI q)) (sc := sc) (hw := hw) (cn := cn) (fu := fu) (lf := lf) (dd := dd) (dn := dn) (rn := rn) (tr := tr) (lg := lg) (he := he) (me := me) (hd := hd) (hen := hen) (hnd := hnd) (ed := upd (upd (upd (upd (upd (upd ed_3 0 (al 0 (15 - (dgt (ms4 (fun i => M (b + i))) 0)) (dgt (ms4 (fun i => M (b + i))) 0) (M (b + 5)))) 1 (al 1 (15 - (dgt (ms4 (fun i => M (b + i))) 1)) (dgt (ms4 (fun i => M (b + i))) 1) (M (b + 6)))) 2 (al 2 (15 - (dgt (ms4 (fun i => M (b + i))) 2)) (dgt (ms4 (fun i => M (b + i))) 2) (M (b + 7)))) 3 (al 3 (15 - (dgt (ms4 (fun i => M (b + i))) 3)) (dgt (ms4 (fun i => M (b + i))) 3) (M (b + 8)))) 4 (al 4 (15 - (dgt (ms4 (fun i => M (b + i))) 4)) (dgt (ms4 (fun i => M (b + i))) 4) (M (b + 9)))) 5 (al 5 (15 - (dgt (ms4 (fun i => M (b + i))) 5)) (dgt (ms4 (fun i => M (b + i))) 5) (M (b + 10)))) ) ⟨callB_of 1 hts (gd kw_432) rfl rfl rfl (hts _ kw_41) (hts _ kw_429) (by decide +kernel) ⟨Nat.le_of_ble_eq_true rfl, Nat.le_of_ble_eq_true rfl⟩, (hts _ kw_431), (hts _ kw_21)⟩ ⟨fun a U g mk q => by obtain ⟨q0, qP, qK⟩ := q; exact ⟨q0, qP, qK.call⟩, va_recv hK hP (ci := 3) rfl (q0 := 0) rfl, fun U hU hW => ⟨rfl, by rw [hU]; exact hP.sub [0, 3] rfl, hKN.warm hW⟩⟩ rfl rfl hl.1 rfl (lv_room (Nat.le_of_ble_eq_true rfl)) d_Mo_signed_81 ⟨Nat.zero_le _, Nat.zero_le _⟩) ?_
                    refine tp (y := sgLeaf (fun i => M (b + i)) q) (by simp [lf6, sgLeaf, sgEnd, upd]) ?_
                    refine lv_istore (lv' := [(4, .int (sgLeaf (fun i => M (b + i)) q)), (3, .int (root sc)), (2, .int (M (b + 4))), (0, .ref hm), (1, .int (nI b))]) hx hb d_Mo_signed_84 hl (by decide) rfl (fun ls hl => ?_)
                    refine lv_bipush (v := (nI 8)) hx hb d_Mo_signed_86 (by decide) ?_
                    refine lv_iload_n hx hb d_Mo_signed_88 rfl (lv_at hl 2 rfl) ?_
                    refine tp hq ?_
                    refine lv_iadd hx hb d_Mo_signed_89 ?_
                    refine tp (nI_add _ _) ?_
                    refine lv_istore (lv' := [(5, .int (nI (8 + q))), (4, .int (sgLeaf (fun i => M (b + i)) q)), (3, .int (root sc)), (2, .int (M (b + 4))), (0, .ref hm), (1, .int (nI b))]) hx hb d_Mo_signed_90 hl (by decide) rfl (fun ls hl => ?_)
                    refine lv_bipush (v := (nI 11)) hx hb d_Mo_signed_92 (by decide) ?_
                    refine lv_istore (lv' := [(6, .int (nI 11)), (5, .int (nI (8 + q))), (4, .int (sgLeaf (fun i => M (b + i)) q)), (3, .int (root sc)), (2, .int (M (b + 4))), (0, .ref hm), (1, .int (nI b))]) hx hb d_Mo_signed_94 hl (by decide) rfl (fun ls hl => ?_)
                    refine lv_iload hx hb d_Mo_signed_96 (lv_at hl 0 rfl) ?_
                    refine lv_bipush (v := (nI 14)) hx hb d_Mo_signed_98 (by decide) ?_
                    refine nb_ge (tgt := 160) hx hb d_Mo_signed_100 (by decide) (by decide) (by decide) (fun h_12 => ?_) (fun h_12 => ?_)
                    · exact absurd h_12 (by decide)
                    · refine lv_aload_n hx hb d_Mo_signed_103 rfl (lv_at hl 5 rfl) ?_
                      refine va_get (D := (dC, dI)) (ci := 3) (v := .ref hw) (C := R_Mo) (T := F_Mo) (N := 15) hx hb hts in_Mo hown hK hP 0 rfl rfl 1 (by decide) (hts _ kw_440) (fun _ h9 => h9) rfl d_Mo_signed_104 ?_
                      refine lv_iload_n hx hb d_Mo_signed_107 rfl (lv_at hl 6 rfl) ?_
                      refine lv_iload hx hb d_Mo_signed_108 (lv_at hl 0 rfl) ?_
                      refine lv_iadd hx hb d_Mo_signed_110 ?_
                      refine tp (nI_add _ _) ?_
                      refine ar_ld (k := b + 11) hx hb hK hP 1 0 rfl rfl (by omega) (by first | decide | omega) d_Mo_signed_111 ?_
                      refine lv_istore (lv' := [(7, .int (M (b + 11))), (6, .int (nI 11)), (5, .int (nI (8 + q))), (4, .int (sgLeaf (fun i => M (b + i)) q)), (3, .int (root sc)), (2, .int (M (b + 4))), (0, .ref hm), (1, .int (nI b))]) hx hb d_Mo_signed_112 hl (by decide) rfl (fun ls hl => ?_)
                      refine lv_iload hx hb d_Mo_signed_114 (lv_at hl 2 rfl) ?_
                      refine lv_iconst (v := (nI 2)) hx hb d_Mo_signed_116 (by decide) ?_
                      refine lv_irem hx hb d_Mo_signed_117 (by decide) ?_
                      refine tp (pk_rem (by omega) (by decide) (by decide)) ?_
                      refine nz_ne (tgt := 135) hx hb d_Mo_signed_118 (by decide) (by omega) (fun h_13 => ?_) (fun h_13 => ?_)
                      · refine lv_iload hx hb d_Mo_signed_135 (lv_at hl 0 rfl) ?_
                        refine lv_iload hx hb d_Mo_signed_137 (lv_at hl 3 rfl) ?_
                        refine lv_iload hx hb d_Mo_signed_139 (lv_at hl 2 rfl) ?_
                        refine lv_iconst (v := (nI 2)) hx hb d_Mo_signed_141 (by decide) ?_
                        refine lv_idiv hx hb d_Mo_signed_142 (by decide) ?_
                        refine tp (pk_div (by omega) (by decide) (by decide)) ?_
                        refine pr_call (va_runS (As := [.int (M (b + 11)), .int (sgLeaf (fun i => M (b + i)) q), .int (nI ((8 + q) / 2))]) (rest := []) ⟨hx, hb, hml, hown, hts⟩ (c_Mo_join l dC dI cI (a := M (b + 11)) (b := sgLeaf (fun i => M (b + i)) q) (k := (8 + q) / 2) ) ⟨callB_of 3 hts (gd kw_435) rfl rfl rfl (hts _ kw_41) (hts _ kw_433) (by decide +kernel) ⟨Nat.le_of_ble_eq_true rfl, Nat.le_of_ble_eq_true rfl⟩, (hts _ kw_434)⟩ ⟨fun a U g mk q => by obtain ⟨q0, qP, qK⟩ := q; exact ⟨q0, qP, qK.call⟩, fun U hU hW => ⟨rfl, by rw [hU]; exact hP.sub [] rfl, hKN.warm hW⟩⟩ rfl rfl hl.1 rfl (lv_room (Nat.le_of_ble_eq_true rfl)) d_Mo_signed_143 ⟨Nat.zero_le _, Nat.zero_le _⟩) ?_
                        refine lv_istore (lv' := [(4, .int (ab (M (b + 11)) (sgLeaf (fun i => M (b + i)) q) ((8 + q) / 2))), (7, .int (M (b + 11))), (6, .int (nI 11)), (5, .int (nI (8 + q))), (3, .int (root sc)), (2, .int (M (b + 4))), (0, .ref hm), (1, .int (nI b))]) hx hb d_Mo_signed_146 hl (by decide) rfl (fun ls hl => ?_)
                        refine lv_iload hx hb d_Mo_signed_148 (lv_at hl 3 rfl) ?_
                        refine lv_iconst (v := (nI 2)) hx hb d_Mo_signed_150 (by decide) ?_
                        refine lv_idiv hx hb d_Mo_signed_151 (by decide) ?_
                        refine tp (pk_div (by omega) (by decide) (by decide)) ?_
                        refine lv_istore (lv' := [(5, .int (nI ((8 + q) / 2))), (4, .int (ab (M (b + 11)) (sgLeaf (fun i => M (b + i)) q) ((8 + q) / 2))), (7, .int (M (b + 11))), (6, .int (nI 11)), (3, .int (root sc)), (2, .int (M (b + 4))), (0, .ref hm), (1, .int (nI b))]) hx hb d_Mo_signed_152 hl (by decide) rfl (fun ls hl => ?_)
                        refine lv_iinc (k := 3) (v := (nI 12)) (lv' := [(6, .int (nI 12)), (5, .int (nI ((8 + q) / 2))), (4, .int (ab (M (b + 11)) (sgLeaf (fun i => M (b + i)) q) ((8 + q) / 2))), (7, .int (M (b + 11))), (3, .int (root sc)), (2, .int (M (b + 4))), (0, .ref hm), (1, .int (nI b))]) hx hb d_Mo_signed_154 hl rfl (by decide) (by decide) rfl (fun ls hl => ?_)
                        refine lv_goto (tgt := 96) hx hb d_Mo_signed_157 (by decide) ?_
                        refine lv_iload hx hb d_Mo_signed_96 (lv_at hl 0 rfl) ?_
                        refine lv_bipush (v := (nI 14)) hx hb d_Mo_signed_98 (by decide) ?_
                        refine nb_ge (tgt := 160) hx hb d_Mo_signed_100 (by decide) (by decide) (by decide) (fun h_14 => ?_) (fun h_14 => ?_)
                        · exact absurd h_14 (by decide)
                        · refine lv_aload_n hx hb d_Mo_signed_103 rfl (lv_at hl 6 rfl) ?_
                          refine va_get (D := (dC, dI)) (ci := 3) (v := .ref hw) (C := R_Mo) (T := F_Mo) (N := 15) hx hb hts in_Mo hown hK hP 0 rfl rfl 1 (by decide) (hts _ kw_440) (fun _ h9 => h9) rfl d_Mo_signed_104 ?_
                          refine lv_iload_n hx hb d_Mo_signed_107 rfl (lv_at hl 7 rfl) ?_
                          refine lv_iload hx hb d_Mo_signed_108 (lv_at hl 0 rfl) ?_
                          refine lv_iadd hx hb d_Mo_signed_110 ?_
                          refine tp (nI_add _ _) ?_
                          refine ar_ld (k := b + 12) hx hb hK hP 1 0 rfl rfl (by omega) (by first | decide | omega) d_Mo_signed_111 ?_
                          refine lv_istore (lv' := [(7, .int (M (b + 12))), (6, .int (nI 12)), (5, .int (nI ((8 + q) / 2))), (4, .int (ab (M (b + 11)) (sgLeaf (fun i => M (b + i)) q) ((8 + q) / 2))), (3, .int (root sc)), (2, .int (M (b + 4))), (0, .ref hm), (1, .int (nI b))]) hx hb d_Mo_signed_112 hl (by decide) rfl (fun ls hl => ?_)
                          refine lv_iload hx hb d_Mo_signed_114 (lv_at hl 2 rfl) ?_
                          refine lv_iconst (v := (nI 2)) hx hb d_Mo_signed_116 (by decide) ?_
                          refine lv_irem hx hb d_Mo_signed_117 (by decide) ?_
                          refine tp (pk_rem (by omega) (by decide) (by decide)) ?_
                          refine nz_ne (tgt := 135) hx hb d_Mo_signed_118 (by decide) (by omega) (fun h_15 => ?_) (fun h_15 => ?_)
                          · refine lv_iload hx hb d_Mo_signed_135 (lv_at hl 0 rfl) ?_
                            refine lv_iload hx hb d_Mo_signed_137 (lv_at hl 3 rfl) ?_
                            refine lv_iload hx hb d_Mo_signed_139 (lv_at hl 2 rfl) ?_
                            refine lv_iconst (v := (nI 2)) hx hb d_Mo_signed_141 (by decide) ?_
                            refine lv_idiv hx hb d_Mo_signed_142 (by decide) ?_
                            refine tp (pk_div (by omega) (by decide) (by decide)) ?_
                            refine pr_call (va_runS (As := [.int (M (b + 12)), .int (ab (M (b + 11)) (sgLeaf (fun i => M (b + i)) q) ((8 + q) / 2)), .int (nI (((8 + q) / 2) / 2))]) (rest := []) ⟨hx, hb, hml, hown, hts⟩ (c_Mo_join l dC dI cI (a := M (b + 12)) (b := ab (M (b + 11)) (sgLeaf (fun i => M (b + i)) q) ((8 + q) / 2)) (k := ((8 + q) / 2) / 2) ) ⟨callB_of 3 hts (gd kw_435) rfl rfl rfl (hts _ kw_41) (hts _ kw_433) (by decide +kernel) ⟨Nat.le_of_ble_eq_true rfl, Nat.le_of_ble_eq_true rfl⟩, (hts _ kw_434)⟩ ⟨fun a U g mk q => by obtain ⟨q0, qP, qK⟩ := q; exact ⟨q0, qP, qK.call⟩, fun U hU hW => ⟨rfl, by rw [hU]; exact hP.sub [] rfl, hKN.warm hW⟩⟩ rfl rfl hl.1 rfl (lv_room (Nat.le_of_ble_eq_true rfl)) d_Mo_signed_143 ⟨Nat.zero_le _, Nat.zero_le _⟩) ?_
                            refine lv_istore (lv' := [(4, .int (ab (M (b + 12)) (ab (M (b + 11)) (sgLeaf (fun i => M (b + i)) q) ((8 + q) / 2)) (((8 + q) / 2) / 2))), (7, .int (M (b + 12))), (6, .int (nI 12)), (5, .int (nI ((8 + q) / 2))), (3, .int (root sc)), (2, .int (M (b + 4))), (0, .ref hm), (1, .int (nI b))]) hx hb d_Mo_signed_146 hl (by decide) rfl (fun ls hl => ?_)
                            refine lv_iload hx hb d_Mo_signed_148 (lv_at hl 3 rfl) ?_
                            refine lv_iconst (v := (nI 2)) hx hb d_Mo_signed_150 (by decide) ?_
                            refine lv_idiv hx hb d_Mo_signed_151 (by decide) ?_
                            refine tp (pk_div (by omega) (by decide) (by decide)) ?_
                            refine lv_istore (lv' := [(5, .int (nI (((8 + q) / 2) / 2))), (4, .int (ab (M (b + 12)) (ab (M (b + 11)) (sgLeaf (fun i => M (b + i)) q) ((8 + q) / 2)) (((8 + q) / 2) / 2))), (7, .int (M (b + 12))), (6, .int (nI 12)), (3, .int (root sc)), (2, .int (M (b + 4))), (0, .ref hm), (1, .int (nI b))]) hx hb d_Mo_signed_152 hl (by decide) rfl (fun ls hl => ?_)
                            refine lv_iinc (k := 3) (v := (nI 13)) (lv' := [(6, .int (nI 13)), (5, .int (nI (((8 + q) / 2) / 2))), (4, .int (ab (M (b + 12)) (ab (M (b + 11)) (sgLeaf (fun i => M (b + i)) q) ((8 + q) / 2)) (((8 + q) / 2) / 2))), (7, .int (M (b + 12))), (3, .int (root sc)), (2, .int (M (b + 4))), (0, .ref hm), (1, .int (nI b))]) hx hb d_Mo_signed_154 hl rfl (by decide) (by decide) rfl (fun ls hl => ?_)
                            refine lv_goto (tgt := 96) hx hb d_Mo_signed_157 (by decide) ?_
                            refine lv_iload hx hb d_Mo_signed_96 (lv_at hl 0 rfl) ?_
                            refine lv_bipush (v := (nI 14)) hx hb d_Mo_signed_98 (by decide) ?_
                            refine nb_ge (tgt := 160) hx hb d_Mo_signed_100 (by decide) (by decide) (by decide) (fun h_16 => ?_) (fun h_16 => ?_)
                            · exact absurd h_16 (by decide)
                            · refine lv_aload_n hx hb d_Mo_signed_103 rfl (lv_at hl 6 rfl) ?_
                              refine va_get (D := (dC, dI)) (ci := 3) (v := .ref hw) (C := R_Mo) (T := F_Mo) (N := 15) hx hb hts in_Mo hown hK hP 0 rfl rfl 1 (by decide) (hts _ kw_440) (fun _ h9 => h9) rfl d_Mo_signed_104 ?_
                              refine lv_iload_n hx hb d_Mo_signed_107 rfl (lv_at hl 7 rfl) ?_
                              refine lv_iload hx hb d_Mo_signed_108 (lv_at hl 0 rfl) ?_
                              refine lv_iadd hx hb d_Mo_signed_110 ?_
                              refine tp (nI_add _ _) ?_
                              refine ar_ld (k := b + 13) hx hb hK hP 1 0 rfl rfl (by omega) (by first | decide | omega) d_Mo_signed_111 ?_
                              refine lv_istore (lv' := [(7, .int (M (b + 13))), (6, .int (nI 13)), (5, .int (nI (((8 + q) / 2) / 2))), (4, .int (ab (M (b + 12)) (ab (M (b + 11)) (sgLeaf (fun i => M (b + i)) q) ((8 + q) / 2)) (((8 + q) / 2) / 2))), (3, .int (root sc)), (2, .int (M (b + 4))), (0, .ref hm), (1, .int (nI b))]) hx hb d_Mo_signed_112 hl (by decide) rfl (fun ls hl => ?_)
                              refine lv_iload hx hb d_Mo_signed_114 (lv_at hl 2 rfl) ?_
                              refine lv_iconst (v := (nI 2)) hx hb d_Mo_signed_116 (by decide) ?_
                              refine lv_irem hx hb d_Mo_signed_117 (by decide) ?_
                              refine tp (pk_rem (by omega) (by decide) (by decide)) ?_
                              refine nz_ne (tgt := 135) hx hb d_Mo_signed_118 (by decide) (by omega) (fun h_17 => ?_) (fun h_17 => ?_)
                              · refine lv_iload hx hb d_Mo_signed_135 (lv_at hl 0 rfl) ?_
                                refine lv_iload hx hb d_Mo_signed_137 (lv_at hl 3 rfl) ?_
                                refine lv_iload hx hb d_Mo_signed_139 (lv_at hl 2 rfl) ?_
                                refine lv_iconst (v := (nI 2)) hx hb d_Mo_signed_141 (by decide) ?_
                                refine lv_idiv hx hb d_Mo_signed_142 (by decide) ?_
                                refine tp (pk_div (by omega) (by decide) (by decide)) ?_
                                refine pr_call (va_runS (As := [.int (M (b + 13)), .int (ab (M (b + 12)) (ab (M (b + 11)) (sgLeaf (fun i => M (b + i)) q) ((8 + q) / 2)) (((8 + q) / 2) / 2)), .int (nI ((((8 + q) / 2) / 2) / 2))]) (rest := []) ⟨hx, hb, hml, hown, hts⟩ (c_Mo_join l dC dI cI (a := M (b + 13)) (b := ab (M (b + 12)) (ab (M (b + 11)) (sgLeaf (fun i => M (b + i)) q) ((8 + q) / 2)) (((8 + q) / 2) / 2)) (k := (((8 + q) / 2) / 2) / 2) ) ⟨callB_of 3 hts (gd kw_435) rfl rfl rfl (hts _ kw_41) (hts _ kw_433) (by decide +kernel) ⟨Nat.le_of_ble_eq_true rfl, Nat.le_of_ble_eq_true rfl⟩, (hts _ kw_434)⟩ ⟨fun a U g mk q => by obtain ⟨q0, qP, qK⟩ := q; exact ⟨q0, qP, qK.call⟩, fun U hU hW => ⟨rfl, by rw [hU]; exact hP.sub [] rfl, hKN.warm hW⟩⟩ rfl rfl hl.1 rfl (lv_room (Nat.le_of_ble_eq_true rfl)) d_Mo_signed_143 ⟨Nat.zero_le _, Nat.zero_le _⟩) ?_
                                refine lv_istore (lv' := [(4, .int (ab (M (b + 13)) (ab (M (b + 12)) (ab (M (b + 11)) (sgLeaf (fun i => M (b + i)) q) ((8 + q) / 2)) (((8 + q) / 2) / 2)) ((((8 + q) / 2) / 2) / 2))), (7, .int (M (b + 13))), (6, .int (nI 13)), (5, .int (nI (((8 + q) / 2) / 2))), (3, .int (root sc)), (2, .int (M (b + 4))), (0, .ref hm), (1, .int (nI b))]) hx hb d_Mo_signed_146 hl (by decide) rfl (fun ls hl => ?_)
                                refine lv_iload hx hb d_Mo_signed_148 (lv_at hl 3 rfl) ?_
                                refine lv_iconst (v := (nI 2)) hx hb d_Mo_signed_150 (by decide) ?_
                                refine lv_idiv hx hb d_Mo_signed_151 (by decide) ?_
                                refine tp (pk_div (by omega) (by decide) (by decide)) ?_
                                refine lv_istore (lv' := [(5, .int (nI ((((8 + q) / 2) / 2) / 2))), (4, .int (ab (M (b + 13)) (ab (M (b + 12)) (ab (M (b + 11)) (sgLeaf (fun i => M (b + i)) q) ((8 + q) / 2)) (((8 + q) / 2) / 2)) ((((8 + q) / 2) / 2) / 2))), (7, .int (M (b + 13))), (6, .int (nI 13)), (3, .int (root sc)), (2, .int (M (b + 4))), (0, .ref hm), (1, .int (nI b))]) hx hb d_Mo_signed_152 hl (by decide) rfl (fun ls hl => ?_)
                                refine lv_iinc (k := 3) (v := (nI 14)) (lv' := [(6, .int (nI 14)), (5, .int (nI ((((8 + q) / 2) / 2) / 2))), (4, .int (ab (M (b + 13)) (ab (M (b + 12)) (ab (M (b + 11)) (sgLeaf (fun i => M (b + i)) q) ((8 + q) / 2)) (((8 + q) / 2) / 2)) ((((8 + q) / 2) / 2) / 2))), (7, .int (M (b + 13))), (3, .int (root sc)), (2, .int (M (b + 4))), (0, .ref hm), (1, .int (nI b))]) hx hb d_Mo_signed_154 hl rfl (by decide) (by decide) rfl (fun ls hl => ?_)
                                refine lv_goto (tgt := 96) hx hb d_Mo_signed_157 (by decide) ?_
                                refine lv_iload hx hb d_Mo_signed_96 (lv_at hl 0 rfl) ?_
                                refine lv_bipush (v := (nI 14)) hx hb d_Mo_signed_98 (by decide) ?_
                                refine nb_ge (tgt := 160) hx hb d_Mo_signed_100 (by decide) (by decide) (by decide) (fun h_18 => ?_) (fun h_18 => ?_)
                                · refine lv_iload hx hb d_Mo_signed_160 (lv_at hl 2 rfl) ?_
                                  refine lv_iload_n hx hb d_Mo_signed_162 rfl (lv_at hl 4 rfl) ?_
                                  refine lv_icmp_ne (tgt := 170) hx hb d_Mo_signed_163 (by decide) (fun h_19 => ?_) (fun h_19 => ?_)
                                  · refine lv_iconst (v := (nI 0)) hx hb d_Mo_signed_170 (by decide) ?_
                                    exact W.zret (v := (bI false)) hx hb hr (bI_narrow _) (fun t ht hW => ⟨⟨_, (dg_4, upd (upd (upd (upd (upd (upd ed_3 0 (al 0 (15 - (dgt (ms4 (fun i => M (b + i))) 0)) (dgt (ms4 (fun i => M (b + i))) 0) (M (b + 5)))) 1 (al 1 (15 - (dgt (ms4 (fun i => M (b + i))) 1)) (dgt (ms4 (fun i => M (b + i))) 1) (M (b + 6)))) 2 (al 2 (15 - (dgt (ms4 (fun i => M (b + i))) 2)) (dgt (ms4 (fun i => M (b + i))) 2) (M (b + 7)))) 3 (al 3 (15 - (dgt (ms4 (fun i => M (b + i))) 3)) (dgt (ms4 (fun i => M (b + i))) 3) (M (b + 8)))) 4 (al 4 (15 - (dgt (ms4 (fun i => M (b + i))) 4)) (dgt (ms4 (fun i => M (b + i))) 4) (M (b + 9)))) 5 (al 5 (15 - (dgt (ms4 (fun i => M (b + i))) 5)) (dgt (ms4 (fun i => M (b + i))) 5) (M (b + 10))), nd_3), rfl, ⟨false, rfl, (by rw [sgOk_q (r := (fun i => M (b + i))) hq hq8]; simp only [sgTop, up1, if_neg h_13, if_neg h_15, if_neg h_17]; exact (decide_eq_false h_19).symm)⟩, by rw [ht]; exact hP, hD⟩, hS.F ht⟩) hS.2.2 d_Mo_signed_171
                                  · refine lv_iconst (v := (nI 1)) hx hb d_Mo_signed_166 (by decide) ?_
                                    refine lv_goto (tgt := 171) hx hb d_Mo_signed_167 (by decide) ?_
                                    exact W.zret (v := (bI true)) hx hb hr (bI_narrow _) (fun t ht hW => ⟨⟨_, (dg_4, upd (upd (upd (upd (upd (upd ed_3 0 (al 0 (15 - (dgt (ms4 (fun i => M (b + i))) 0)) (dgt (ms4 (fun i => M (b + i))) 0) (M (b + 5)))) 1 (al 1 (15 - (dgt (ms4 (fun i => M (b + i))) 1)) (dgt (ms4 (fun i => M (b + i))) 1) (M (b + 6)))) 2 (al 2 (15 - (dgt (ms4 (fun i => M (b + i))) 2)) (dgt (ms4 (fun i => M (b + i))) 2) (M (b + 7)))) 3 (al 3 (15 - (dgt (ms4 (fun i => M (b + i))) 3)) (dgt (ms4 (fun i => M (b + i))) 3) (M (b + 8)))) 4 (al 4 (15 - (dgt (ms4 (fun i => M (b + i))) 4)) (dgt (ms4 (fun i => M (b + i))) 4) (M (b + 9)))) 5 (al 5 (15 - (dgt (ms4 (fun i => M (b + i))) 5)) (dgt (ms4 (fun i => M (b + i))) 5) (M (b + 10))), nd_3), rfl, ⟨true, rfl, (by rw [sgOk_q (r := (fun i => M (b + i))) hq hq8]; simp only [sgTop, up1, if_neg h_13, if_neg h_15, if_neg h_17]; exact (decide_eq_true h_19).symm)⟩, by rw [ht]; exact hP, hD⟩, hS.F ht⟩) hS.2.2 d_Mo_signed_171
                                · exact absurd h_18 (by decide)
                              · refine lv_iload hx hb d_Mo_signed_121 (lv_at hl 3 rfl) ?_
                                refine lv_iload hx hb d_Mo_signed_123 (lv_at hl 0 rfl) ?_
                                refine lv_iload hx hb d_Mo_signed_125 (lv_at hl 2 rfl) ?_
                                refine lv_iconst (v := (nI 2)) hx hb d_Mo_signed_127 (by decide) ?_
                                refine lv_idiv hx hb d_Mo_signed_128 (by decide) ?_
                                refine tp (pk_div (by omega) (by decide) (by decide)) ?_
                                refine pr_call (va_runS (As := [.int (ab (M (b + 12)) (ab (M (b + 11)) (sgLeaf (fun i => M (b + i)) q) ((8 + q) / 2)) (((8 + q) / 2) / 2)), .int (M (b + 13)), .int (nI ((((8 + q) / 2) / 2) / 2))]) (rest := []) ⟨hx, hb, hml, hown, hts⟩ (c_Mo_join l dC dI cI (a := ab (M (b + 12)) (ab (M (b + 11)) (sgLeaf (fun i => M (b + i)) q) ((8 + q) / 2)) (((8 + q) / 2) / 2)) (b := M (b + 13)) (k := (((8 + q) / 2) / 2) / 2) ) ⟨callB_of 3 hts (gd kw_435) rfl rfl rfl (hts _ kw_41) (hts _ kw_433) (by decide +kernel) ⟨Nat.le_of_ble_eq_true rfl, Nat.le_of_ble_eq_true rfl⟩, (hts _ kw_434)⟩ ⟨fun a U g mk q => by obtain ⟨q0, qP, qK⟩ := q; exact ⟨q0, qP, qK.call⟩, fun U hU hW => ⟨rfl, by rw [hU]; exact hP.sub [] rfl, hKN.warm hW⟩⟩ rfl rfl hl.1 rfl (lv_room (Nat.le_of_ble_eq_true rfl)) d_Mo_signed_129 ⟨Nat.zero_le _, Nat.zero_le _⟩) ?_
                                refine lv_goto (tgt := 146) hx hb d_Mo_signed_132 (by decide) ?_
                                refine lv_istore (lv' := [(4, .int (ab (ab (M (b + 12)) (ab (M (b + 11)) (sgLeaf (fun i => M (b + i)) q) ((8 + q) / 2)) (((8 + q) / 2) / 2)) (M (b + 13)) ((((8 + q) / 2) / 2) / 2))), (7, .int (M (b + 13))), (6, .int (nI 13)), (5, .int (nI (((8 + q) / 2) / 2))), (3, .int (root sc)), (2, .int (M (b + 4))), (0, .ref hm), (1, .int (nI b))]) hx hb d_Mo_signed_146 hl (by decide) rfl (fun ls hl => ?_)
                                refine lv_iload hx hb d_Mo_signed_148 (lv_at hl 3 rfl) ?_
                                refine lv_iconst (v := (nI 2)) hx hb d_Mo_signed_150 (by decide) ?_
                                refine lv_idiv hx hb d_Mo_signed_151 (by decide) ?_
                                refine tp (pk_div (by omega) (by decide) (by decide)) ?_
                                refine lv_istore (lv' := [(5, .int (nI ((((8 + q) / 2) / 2) / 2))), (4, .int (ab (ab (M (b + 12)) (ab (M (b + 11)) (sgLeaf (fun i => M (b + i)) q) ((8 + q) / 2)) (((8 + q) / 2) / 2)) (M (b + 13)) ((((8 + q) / 2) / 2) / 2))), (7, .int (M (b + 13))), (6, .int (nI 13)), (3, .int (root sc)), (2, .int (M (b + 4))), (0, .ref hm), (1, .int (nI b))]) hx hb d_Mo_signed_152 hl (by decide) rfl (fun ls hl => ?_)
                                refine lv_iinc (k := 3) (v := (nI 14)) (lv' := [(6, .int (nI 14)), (5, .int (nI ((((8 + q) / 2) / 2) / 2))), (4, .int (ab (ab (M (b + 12)) (ab (M (b + 11)) (sgLeaf (fun i => M (b + i)) q) ((8 + q) / 2)) (((8 + q) / 2) / 2)) (M (b + 13)) ((((8 + q) / 2) / 2) / 2))), (7, .int (M (b + 13))), (3, .int (root sc)), (2, .int (M (b + 4))), (0, .ref hm), (1, .int (nI b))]) hx hb d_Mo_signed_154 hl rfl (by decide) (by decide) rfl (fun ls hl => ?_)
                                refine lv_goto (tgt := 96) hx hb d_Mo_signed_157 (by decide) ?_
                                refine lv_iload hx hb d_Mo_signed_96 (lv_at hl 0 rfl) ?_
                                refine lv_bipush (v := (nI 14)) hx hb d_Mo_signed_98 (by decide) ?_
                                refine nb_ge (tgt := 160) hx hb d_Mo_signed_100 (by decide) (by decide) (by decide) (fun h_20 => ?_) (fun h_20 => ?_)
                                · refine lv_iload hx hb d_Mo_signed_160 (lv_at hl 2 rfl) ?_
                                  refine lv_iload_n hx hb d_Mo_signed_162 rfl (lv_at hl 4 rfl) ?_
                                  refine lv_icmp_ne (tgt := 170) hx hb d_Mo_signed_163 (by decide) (fun h_21 => ?_) (fun h_21 => ?_)
                                  · refine lv_iconst (v := (nI 0)) hx hb d_Mo_signed_170 (by decide) ?_
                                    exact W.zret (v := (bI false)) hx hb hr (bI_narrow _) (fun t ht hW => ⟨⟨_, (dg_4, upd (upd (upd (upd (upd (upd ed_3 0 (al 0 (15 - (dgt (ms4 (fun i => M (b + i))) 0)) (dgt (ms4 (fun i => M (b + i))) 0) (M (b + 5)))) 1 (al 1 (15 - (dgt (ms4 (fun i => M (b + i))) 1)) (dgt (ms4 (fun i => M (b + i))) 1) (M (b + 6)))) 2 (al 2 (15 - (dgt (ms4 (fun i => M (b + i))) 2)) (dgt (ms4 (fun i => M (b + i))) 2) (M (b + 7)))) 3 (al 3 (15 - (dgt (ms4 (fun i => M (b + i))) 3)) (dgt (ms4 (fun i => M (b + i))) 3) (M (b + 8)))) 4 (al 4 (15 - (dgt (ms4 (fun i => M (b + i))) 4)) (dgt (ms4 (fun i => M (b + i))) 4) (M (b + 9)))) 5 (al 5 (15 - (dgt (ms4 (fun i => M (b + i))) 5)) (dgt (ms4 (fun i => M (b + i))) 5) (M (b + 10))), nd_3), rfl, ⟨false, rfl, (by rw [sgOk_q (r := (fun i => M (b + i))) hq hq8]; simp only [sgTop, up1, if_neg h_13, if_neg h_15, if_pos h_17]; exact (decide_eq_false h_21).symm)⟩, by rw [ht]; exact hP, hD⟩, hS.F ht⟩) hS.2.2 d_Mo_signed_171
                                  · refine lv_iconst (v := (nI 1)) hx hb d_Mo_signed_166 (by decide) ?_
                                    refine lv_goto (tgt := 171) hx hb d_Mo_signed_167 (by decide) ?_
                                    exact W.zret (v := (bI true)) hx hb hr (bI_narrow _) (fun t ht hW => ⟨⟨_, (dg_4, upd (upd (upd (upd (upd (upd ed_3 0 (al 0 (15 - (dgt (ms4 (fun i => M (b + i))) 0)) (dgt (ms4 (fun i => M (b + i))) 0) (M (b + 5)))) 1 (al 1 (15 - (dgt (ms4 (fun i => M (b + i))) 1)) (dgt (ms4 (fun i => M (b + i))) 1) (M (b + 6)))) 2 (al 2 (15 - (dgt (ms4 (fun i => M (b + i))) 2)) (dgt (ms4 (fun i => M (b + i))) 2) (M (b + 7)))) 3 (al 3 (15 - (dgt (ms4 (fun i => M (b + i))) 3)) (dgt (ms4 (fun i => M (b + i))) 3) (M (b + 8)))) 4 (al 4 (15 - (dgt (ms4 (fun i => M (b + i))) 4)) (dgt (ms4 (fun i => M (b + i))) 4) (M (b + 9)))) 5 (al 5 (15 - (dgt (ms4 (fun i => M (b + i))) 5)) (dgt (ms4 (fun i => M (b + i))) 5) (M (b + 10))), nd_3), rfl, ⟨true, rfl, (by rw [sgOk_q (r := (fun i => M (b + i))) hq hq8]; simp only [sgTop, up1, if_neg h_13, if_neg h_15, if_pos h_17]; exact (decide_eq_true h_21).symm)⟩, by rw [ht]; exact hP, hD⟩, hS.F ht⟩) hS.2.2 d_Mo_signed_171
                                · exact absurd h_20 (by decide)
                          · refine lv_iload hx hb d_Mo_signed_121 (lv_at hl 3 rfl) ?_
                            refine lv_iload hx hb d_Mo_signed_123 (lv_at hl 0 rfl) ?_
                            refine lv_iload hx hb d_Mo_signed_125 (lv_at hl 2 rfl) ?_
                            refine lv_iconst (v := (nI 2)) hx hb d_Mo_signed_127 (by decide) ?_
                            refine lv_idiv hx hb d_Mo_signed_128 (by decide) ?_
                            refine tp (pk_div (by omega) (by decide) (by decide)) ?_
                            refine pr_call (va_runS (As := [.int (ab (M (b + 11)) (sgLeaf (fun i => M (b + i)) q) ((8 + q) / 2)), .int (M (b + 12)), .int (nI (((8 + q) / 2) / 2))]) (rest := []) ⟨hx, hb, hml, hown, hts⟩ (c_Mo_join l dC dI cI (a := ab (M (b + 11)) (sgLeaf (fun i => M (b + i)) q) ((8 + q) / 2)) (b := M (b + 12)) (k := ((8 + q) / 2) / 2) ) ⟨callB_of 3 hts (gd kw_435) rfl rfl rfl (hts _ kw_41) (hts _ kw_433) (by decide +kernel) ⟨Nat.le_of_ble_eq_true rfl, Nat.le_of_ble_eq_true rfl⟩, (hts _ kw_434)⟩ ⟨fun a U g mk q => by obtain ⟨q0, qP, qK⟩ := q; exact ⟨q0, qP, qK.call⟩, fun U hU hW => ⟨rfl, by rw [hU]; exact hP.sub [] rfl, hKN.warm hW⟩⟩ rfl rfl hl.1 rfl (lv_room (Nat.le_of_ble_eq_true rfl)) d_Mo_signed_129 ⟨Nat.zero_le _, Nat.zero_le _⟩) ?_
                            refine lv_goto (tgt := 146) hx hb d_Mo_signed_132 (by decide) ?_
                            refine lv_istore (lv' := [(4, .int (ab (ab (M (b + 11)) (sgLeaf (fun i => M (b + i)) q) ((8 + q) / 2)) (M (b + 12)) (((8 + q) / 2) / 2))), (7, .int (M (b + 12))), (6, .int (nI 12)), (5, .int (nI ((8 + q) / 2))), (3, .int (root sc)), (2, .int (M (b + 4))), (0, .ref hm), (1, .int (nI b))]) hx hb d_Mo_signed_146 hl (by decide) rfl (fun ls hl => ?_)
                            refine lv_iload hx hb d_Mo_signed_148 (lv_at hl 3 rfl) ?_
                            refine lv_iconst (v := (nI 2)) hx hb d_Mo_signed_150 (by decide) ?_
                            refine lv_idiv hx hb d_Mo_signed_151 (by decide) ?_
                            refine tp (pk_div (by omega) (by decide) (by decide)) ?_
                            refine lv_istore (lv' := [(5, .int (nI (((8 + q) / 2) / 2))), (4, .int (ab (ab (M (b + 11)) (sgLeaf (fun i => M (b + i)) q) ((8 + q) / 2)) (M (b + 12)) (((8 + q) / 2) / 2))), (7, .int (M (b + 12))), (6, .int (nI 12)), (3, .int (root sc)), (2, .int (M (b + 4))), (0, .ref hm), (1, .int (nI b))]) hx hb d_Mo_signed_152 hl (by decide) rfl (fun ls hl => ?_)
                            refine lv_iinc (k := 3) (v := (nI 13)) (lv' := [(6, .int (nI 13)), (5, .int (nI (((8 + q) / 2) / 2))), (4, .int (ab (ab (M (b + 11)) (sgLeaf (fun i => M (b + i)) q) ((8 + q) / 2)) (M (b + 12)) (((8 + q) / 2) / 2))), (7, .int (M (b + 12))), (3, .int (root sc)), (2, .int (M (b + 4))), (0, .ref hm), (1, .int (nI b))]) hx hb d_Mo_signed_154 hl rfl (by decide) (by decide) rfl (fun ls hl => ?_)
                            refine lv_goto (tgt := 96) hx hb d_Mo_signed_157 (by decide) ?_
                            refine lv_iload hx hb d_Mo_signed_96 (lv_at hl 0 rfl) ?_
                            refine lv_bipush (v := (nI 14)) hx hb d_Mo_signed_98 (by decide) ?_
                            refine nb_ge (tgt := 160) hx hb d_Mo_signed_100 (by decide) (by decide) (by decide) (fun h_22 => ?_) (fun h_22 => ?_)
                            · exact absurd h_22 (by decide)
                            · refine lv_aload_n hx hb d_Mo_signed_103 rfl (lv_at hl 6 rfl) ?_
                              refine va_get (D := (dC, dI)) (ci := 3) (v := .ref hw) (C := R_Mo) (T := F_Mo) (N := 15) hx hb hts in_Mo hown hK hP 0 rfl rfl 1 (by decide) (hts _ kw_440) (fun _ h9 => h9) rfl d_Mo_signed_104 ?_
                              refine lv_iload_n hx hb d_Mo_signed_107 rfl (lv_at hl 7 rfl) ?_
                              refine lv_iload hx hb d_Mo_signed_108 (lv_at hl 0 rfl) ?_
                              refine lv_iadd hx hb d_Mo_signed_110 ?_
                              refine tp (nI_add _ _) ?_
                              refine ar_ld (k := b + 13) hx hb hK hP 1 0 rfl rfl (by omega) (by first | decide | omega) d_Mo_signed_111 ?_
                              refine lv_istore (lv' := [(7, .int (M (b + 13))), (6, .int (nI 13)), (5, .int (nI (((8 + q) / 2) / 2))), (4, .int (ab (ab (M (b + 11)) (sgLeaf (fun i => M (b + i)) q) ((8 + q) / 2)) (M (b + 12)) (((8 + q) / 2) / 2))), (3, .int (root sc)), (2, .int (M (b + 4))), (0, .ref hm), (1, .int (nI b))]) hx hb d_Mo_signed_112 hl (by decide) rfl (fun ls hl => ?_)
                              refine lv_iload hx hb d_Mo_signed_114 (lv_at hl 2 rfl) ?_
                              refine lv_iconst (v := (nI 2)) hx hb d_Mo_signed_116 (by decide) ?_
                              refine lv_irem hx hb d_Mo_signed_117 (by decide) ?_
                              refine tp (pk_rem (by omega) (by decide) (by decide)) ?_
                              refine nz_ne (tgt := 135) hx hb d_Mo_signed_118 (by decide) (by omega) (fun h_23 => ?_) (fun h_23 => ?_)
                              · refine lv_iload hx hb d_Mo_signed_135 (lv_at hl 0 rfl) ?_
                                refine lv_iload hx hb d_Mo_signed_137 (lv_at hl 3 rfl) ?_
                                refine lv_iload hx hb d_Mo_signed_139 (lv_at hl 2 rfl) ?_
                                refine lv_iconst (v := (nI 2)) hx hb d_Mo_signed_141 (by decide) ?_
                                refine lv_idiv hx hb d_Mo_signed_142 (by decide) ?_
                                refine tp (pk_div (by omega) (by decide) (by decide)) ?_
                                refine pr_call (va_runS (As := [.int (M (b + 13)), .int (ab (ab (M (b + 11)) (sgLeaf (fun i => M (b + i)) q) ((8 + q) / 2)) (M (b + 12)) (((8 + q) / 2) / 2)), .int (nI ((((8 + q) / 2) / 2) / 2))]) (rest := []) ⟨hx, hb, hml, hown, hts⟩ (c_Mo_join l dC dI cI (a := M (b + 13)) (b := ab (ab (M (b + 11)) (sgLeaf (fun i => M (b + i)) q) ((8 + q) / 2)) (M (b + 12)) (((8 + q) / 2) / 2)) (k := (((8 + q) / 2) / 2) / 2) ) ⟨callB_of 3 hts (gd kw_435) rfl rfl rfl (hts _ kw_41) (hts _ kw_433) (by decide +kernel) ⟨Nat.le_of_ble_eq_true rfl, Nat.le_of_ble_eq_true rfl⟩, (hts _ kw_434)⟩ ⟨fun a U g mk q => by obtain ⟨q0, qP, qK⟩ := q; exact ⟨q0, qP, qK.call⟩, fun U hU hW => ⟨rfl, by rw [hU]; exact hP.sub [] rfl, hKN.warm hW⟩⟩ rfl rfl hl.1 rfl (lv_room (Nat.le_of_ble_eq_true rfl)) d_Mo_signed_143 ⟨Nat.zero_le _, Nat.zero_le _⟩) ?_
                                refine lv_istore (lv' := [(4, .int (ab (M (b + 13)) (ab (ab (M (b + 11)) (sgLeaf (fun i => M (b + i)) q) ((8 + q) / 2)) (M (b + 12)) (((8 + q) / 2) / 2)) ((((8 + q) / 2) / 2) / 2))), (7, .int (M (b + 13))), (6, .int (nI 13)), (5, .int (nI (((8 + q) / 2) / 2))), (3, .int (root sc)), (2, .int (M (b + 4))), (0, .ref hm), (1, .int (nI b))]) hx hb d_Mo_signed_146 hl (by decide) rfl (fun ls hl => ?_)
                                refine lv_iload hx hb d_Mo_signed_148 (lv_at hl 3 rfl) ?_
                                refine lv_iconst (v := (nI 2)) hx hb d_Mo_signed_150 (by decide) ?_
                                refine lv_idiv hx hb d_Mo_signed_151 (by decide) ?_
                                refine tp (pk_div (by omega) (by decide) (by decide)) ?_
                                refine lv_istore (lv' := [(5, .int (nI ((((8 + q) / 2) / 2) / 2))), (4, .int (ab (M (b + 13)) (ab (ab (M (b + 11)) (sgLeaf (fun i => M (b + i)) q) ((8 + q) / 2)) (M (b + 12)) (((8 + q) / 2) / 2)) ((((8 + q) / 2) / 2) / 2))), (7, .int (M (b + 13))), (6, .int (nI 13)), (3, .int (root sc)), (2, .int (M (b + 4))), (0, .ref hm), (1, .int (nI b))]) hx hb d_Mo_signed_152 hl (by decide) rfl (fun ls hl => ?_)
                                refine lv_iinc (k := 3) (v := (nI 14)) (lv' := [(6, .int (nI 14)), (5, .int (nI ((((8 + q) / 2) / 2) / 2))), (4, .int (ab (M (b + 13)) (ab (ab (M (b + 11)) (sgLeaf (fun i => M (b + i)) q) ((8 + q) / 2)) (M (b + 12)) (((8 + q) / 2) / 2)) ((((8 + q) / 2) / 2) / 2))), (7, .int (M (b + 13))), (3, .int (root sc)), (2, .int (M (b + 4))), (0, .ref hm), (1, .int (nI b))]) hx hb d_Mo_signed_154 hl rfl (by decide) (by decide) rfl (fun ls hl => ?_)
                                refine lv_goto (tgt := 96) hx hb d_Mo_signed_157 (by decide) ?_
                                refine lv_iload hx hb d_Mo_signed_96 (lv_at hl 0 rfl) ?_
                                refine lv_bipush (v := (nI 14)) hx hb d_Mo_signed_98 (by decide) ?_
                                refine nb_ge (tgt := 160) hx hb d_Mo_signed_100 (by decide) (by decide) (by decide) (fun h_24 => ?_) (fun h_24 => ?_)
                                · refine lv_iload hx hb d_Mo_signed_160 (lv_at hl 2 rfl) ?_
                                  refine lv_iload_n hx hb d_Mo_signed_162 rfl (lv_at hl 4 rfl) ?_
                                  refine lv_icmp_ne (tgt := 170) hx hb d_Mo_signed_163 (by decide) (fun h_25 => ?_) (fun h_25 => ?_)
                                  · refine lv_iconst (v := (nI 0)) hx hb d_Mo_signed_170 (by decide) ?_
                                    exact W.zret (v := (bI false)) hx hb hr (bI_narrow _) (fun t ht hW => ⟨⟨_, (dg_4, upd (upd (upd (upd (upd (upd ed_3 0 (al 0 (15 - (dgt (ms4 (fun i => M (b + i))) 0)) (dgt (ms4 (fun i => M (b + i))) 0) (M (b + 5)))) 1 (al 1 (15 - (dgt (ms4 (fun i => M (b + i))) 1)) (dgt (ms4 (fun i => M (b + i))) 1) (M (b + 6)))) 2 (al 2 (15 - (dgt (ms4 (fun i => M (b + i))) 2)) (dgt (ms4 (fun i => M (b + i))) 2) (M (b + 7)))) 3 (al 3 (15 - (dgt (ms4 (fun i => M (b + i))) 3)) (dgt (ms4 (fun i => M (b + i))) 3) (M (b + 8)))) 4 (al 4 (15 - (dgt (ms4 (fun i => M (b + i))) 4)) (dgt (ms4 (fun i => M (b + i))) 4) (M (b + 9)))) 5 (al 5 (15 - (dgt (ms4 (fun i => M (b + i))) 5)) (dgt (ms4 (fun i => M (b + i))) 5) (M (b + 10))), nd_3), rfl, ⟨false, rfl, (by rw [sgOk_q (r := (fun i => M (b + i))) hq hq8]; simp only [sgTop, up1, if_neg h_13, if_pos h_15, if_neg h_23]; exact (decide_eq_false h_25).symm)⟩, by rw [ht]; exact hP, hD⟩, hS.F ht⟩) hS.2.2 d_Mo_signed_171
                                  · refine lv_iconst (v := (nI 1)) hx hb d_Mo_signed_166 (by decide) ?_
                                    refine lv_goto (tgt := 171) hx hb d_Mo_signed_167 (by decide) ?_
                                    exact W.zret (v := (bI true)) hx hb hr (bI_narrow _) (fun t ht hW => ⟨⟨_, (dg_4, upd (upd (upd (upd (upd (upd ed_3 0 (al 0 (15 - (dgt (ms4 (fun i => M (b + i))) 0)) (dgt (ms4 (fun i => M (b + i))) 0) (M (b + 5)))) 1 (al 1 (15 - (dgt (ms4 (fun i => M (b + i))) 1)) (dgt (ms4 (fun i => M (b + i))) 1) (M (b + 6)))) 2 (al 2 (15 - (dgt (ms4 (fun i => M (b + i))) 2)) (dgt (ms4 (fun i => M (b + i))) 2) (M (b + 7)))) 3 (al 3 (15 - (dgt (ms4 (fun i => M (b + i))) 3)) (dgt (ms4 (fun i => M (b + i))) 3) (M (b + 8)))) 4 (al 4 (15 - (dgt (ms4 (fun i => M (b + i))) 4)) (dgt (ms4 (fun i => M (b + i))) 4) (M (b + 9)))) 5 (al 5 (15 - (dgt (ms4 (fun i => M (b + i))) 5)) (dgt (ms4 (fun i => M (b + i))) 5) (M (b + 10))), nd_3), rfl, ⟨true, rfl, (by rw [sgOk_q (r := (fun i => M (b + i))) hq hq8]; simp only [sgTop, up1, if_neg h_13, if_pos h_15, if_neg h_23]; exact (decide_eq_true h_25).symm)⟩, by rw [ht]; exact hP, hD⟩, hS.F ht⟩) hS.2.2 d_Mo_signed_171
                                · exact absurd h_24 (by decide)
                              · refine lv_iload hx hb d_Mo_signed_121 (lv_at hl 3 rfl) ?_
                                refine lv_iload hx hb d_Mo_signed_123 (lv_at hl 0 rfl) ?_
                                refine lv_iload hx hb d_Mo_signed_125 (lv_at hl 2 rfl) ?_
                                refine lv_iconst (v := (nI 2)) hx hb d_Mo_signed_127 (by decide) ?_
                                refine lv_idiv hx hb d_Mo_signed_128 (by decide) ?_
                                refine tp (pk_div (by omega) (by decide) (by decide)) ?_
                                refine pr_call (va_runS (As := [.int (ab (ab (M (b + 11)) (sgLeaf (fun i => M (b + i)) q) ((8 + q) / 2)) (M (b + 12)) (((8 + q) / 2) / 2)), .int (M (b + 13)), .int (nI ((((8 + q) / 2) / 2) / 2))]) (rest := []) ⟨hx, hb, hml, hown, hts⟩ (c_Mo_join l dC dI cI (a := ab (ab (M (b + 11)) (sgLeaf (fun i => M (b + i)) q) ((8 + q) / 2)) (M (b + 12)) (((8 + q) / 2) / 2)) (b := M (b + 13)) (k := (((8 + q) / 2) / 2) / 2) ) ⟨callB_of 3 hts (gd kw_435) rfl rfl rfl (hts _ kw_41) (hts _ kw_433) (by decide +kernel) ⟨Nat.le_of_ble_eq_true rfl, Nat.le_of_ble_eq_true rfl⟩, (hts _ kw_434)⟩ ⟨fun a U g mk q => by obtain ⟨q0, qP, qK⟩ := q; exact ⟨q0, qP, qK.call⟩, fun U hU hW => ⟨rfl, by rw [hU]; exact hP.sub [] rfl, hKN.warm hW⟩⟩ rfl rfl hl.1 rfl (lv_room (Nat.le_of_ble_eq_true rfl)) d_Mo_signed_129 ⟨Nat.zero_le _, Nat.zero_le _⟩) ?_
                                refine lv_goto (tgt := 146) hx hb d_Mo_signed_132 (by decide) ?_
                                refine lv_istore (lv' := [(4, .int (ab (ab (ab (M (b + 11)) (sgLeaf (fun i => M (b + i)) q) ((8 + q) / 2)) (M (b + 12)) (((8 + q) / 2) / 2)) (M (b + 13)) ((((8 + q) / 2) / 2) / 2))), (7, .int (M (b + 13))), (6, .int (nI 13)), (5, .int (nI (((8 + q) / 2) / 2))), (3, .int (root sc)), (2, .int (M (b + 4))), (0, .ref hm), (1, .int (nI b))]) hx hb d_Mo_signed_146 hl (by decide) rfl (fun ls hl => ?_)
                                refine lv_iload hx hb d_Mo_signed_148 (lv_at hl 3 rfl) ?_
                                refine lv_iconst (v := (nI 2)) hx hb d_Mo_signed_150 (by decide) ?_
                                refine lv_idiv hx hb d_Mo_signed_151 (by decide) ?_
                                refine tp (pk_div (by omega) (by decide) (by decide)) ?_
                                refine lv_istore (lv' := [(5, .int (nI ((((8 + q) / 2) / 2) / 2))), (4, .int (ab (ab (ab (M (b + 11)) (sgLeaf (fun i => M (b + i)) q) ((8 + q) / 2)) (M (b + 12)) (((8 + q) / 2) / 2)) (M (b + 13)) ((((8 + q) / 2) / 2) / 2))), (7, .int (M (b + 13))), (6, .int (nI 13)), (3, .int (root sc)), (2, .int (M (b + 4))), (0, .ref hm), (1, .int (nI b))]) hx hb d_Mo_signed_152 hl (by decide) rfl (fun ls hl => ?_)
                                refine lv_iinc (k := 3) (v := (nI 14)) (lv' := [(6, .int (nI 14)), (5, .int (nI ((((8 + q) / 2) / 2) / 2))), (4, .int (ab (ab (ab (M (b + 11)) (sgLeaf (fun i => M (b + i)) q) ((8 + q) / 2)) (M (b + 12)) (((8 + q) / 2) / 2)) (M (b + 13)) ((((8 + q) / 2) / 2) / 2))), (7, .int (M (b + 13))), (3, .int (root sc)), (2, .int (M (b + 4))), (0, .ref hm), (1, .int (nI b))]) hx hb d_Mo_signed_154 hl rfl (by decide) (by decide) rfl (fun ls hl => ?_)
                                refine lv_goto (tgt := 96) hx hb d_Mo_signed_157 (by decide) ?_
                                refine lv_iload hx hb d_Mo_signed_96 (lv_at hl 0 rfl) ?_
                                refine lv_bipush (v := (nI 14)) hx hb d_Mo_signed_98 (by decide) ?_
                                refine nb_ge (tgt := 160) hx hb d_Mo_signed_100 (by decide) (by decide) (by decide) (fun h_26 => ?_) (fun h_26 => ?_)
                                · refine lv_iload hx hb d_Mo_signed_160 (lv_at hl 2 rfl) ?_
                                  refine lv_iload_n hx hb d_Mo_signed_162 rfl (lv_at hl 4 rfl) ?_
                                  refine lv_icmp_ne (tgt := 170) hx hb d_Mo_signed_163 (by decide) (fun h_27 => ?_) (fun h_27 => ?_)
                                  · refine lv_iconst (v := (nI 0)) hx hb d_Mo_signed_170 (by decide) ?_
                                    exact W.zret (v := (bI false)) hx hb hr (bI_narrow _) (fun t ht hW => ⟨⟨_, (dg_4, upd (upd (upd (upd (upd (upd ed_3 0 (al 0 (15 - (dgt (ms4 (fun i => M (b + i))) 0)) (dgt (ms4 (fun i => M (b + i))) 0) (M (b + 5)))) 1 (al 1 (15 - (dgt (ms4 (fun i => M (b + i))) 1)) (dgt (ms4 (fun i => M (b + i))) 1) (M (b + 6)))) 2 (al 2 (15 - (dgt (ms4 (fun i => M (b + i))) 2)) (dgt (ms4 (fun i => M (b + i))) 2) (M (b + 7)))) 3 (al 3 (15 - (dgt (ms4 (fun i => M (b + i))) 3)) (dgt (ms4 (fun i => M (b + i))) 3) (M (b + 8)))) 4 (al 4 (15 - (dgt (ms4 (fun i => M (b + i))) 4)) (dgt (ms4 (fun i => M (b + i))) 4) (M (b + 9)))) 5 (al 5 (15 - (dgt (ms4 (fun i => M (b + i))) 5)) (dgt (ms4 (fun i => M (b + i))) 5) (M (b + 10))), nd_3), rfl, ⟨false, rfl, (by rw [sgOk_q (r := (fun i => M (b + i))) hq hq8]; simp only [sgTop, up1, if_neg h_13, if_pos h_15, if_pos h_23]; exact (decide_eq_false h_27).symm)⟩, by rw [ht]; exact hP, hD⟩, hS.F ht⟩) hS.2.2 d_Mo_signed_171
                                  · refine lv_iconst (v := (nI 1)) hx hb d_Mo_signed_166 (by decide) ?_
                                    refine lv_goto (tgt := 171) hx hb d_Mo_signed_167 (by decide) ?_
                                    exact W.zret (v := (bI true)) hx hb hr (bI_narrow _) (fun t ht hW => ⟨⟨_, (dg_4, upd (upd (upd (upd (upd (upd ed_3 0 (al 0 (15 - (dgt (ms4 (fun i => M (b + i))) 0)) (dgt (ms4 (fun i => M (b + i))) 0) (M (b + 5)))) 1 (al 1 (15 - (dgt (ms4 (fun i => M (b + i))) 1)) (dgt (ms4 (fun i => M (b + i))) 1) (M (b + 6)))) 2 (al 2 (15 - (dgt (ms4 (fun i => M (b + i))) 2)) (dgt (ms4 (fun i => M (b + i))) 2) (M (b + 7)))) 3 (al 3 (15 - (dgt (ms4 (fun i => M (b + i))) 3)) (dgt (ms4 (fun i => M (b + i))) 3) (M (b + 8)))) 4 (al 4 (15 - (dgt (ms4 (fun i => M (b + i))) 4)) (dgt (ms4 (fun i => M (b + i))) 4) (M (b + 9)))) 5 (al 5 (15 - (dgt (ms4 (fun i => M (b + i))) 5)) (dgt (ms4 (fun i => M (b + i))) 5) (M (b + 10))), nd_3), rfl, ⟨true, rfl, (by rw [sgOk_q (r := (fun i => M (b + i))) hq hq8]; simp only [sgTop, up1, if_neg h_13, if_pos h_15, if_pos h_23]; exact (decide_eq_true h_27).symm)⟩, by rw [ht]; exact hP, hD⟩, hS.F ht⟩) hS.2.2 d_Mo_signed_171
                                · exact absurd h_26 (by decide)
                      · refine lv_iload hx hb d_Mo_signed_121 (lv_at hl 3 rfl) ?_
                        refine lv_iload hx hb d_Mo_signed_123 (lv_at hl 0 rfl) ?_
                        refine lv_iload hx hb d_Mo_signed_125 (lv_at hl 2 rfl) ?_
                        refine lv_iconst (v := (nI 2)) hx hb d_Mo_signed_127 (by decide) ?_
                        refine lv_idiv hx hb d_Mo_signed_128 (by decide) ?_
                        refine tp (pk_div (by omega) (by decide) (by decide)) ?_
                        refine pr_call (va_runS (As := [.int (sgLeaf (fun i => M (b + i)) q), .int (M (b + 11)), .int (nI ((8 + q) / 2))]) (rest := []) ⟨hx, hb, hml, hown, hts⟩ (c_Mo_join l dC dI cI (a := sgLeaf (fun i => M (b + i)) q) (b := M (b + 11)) (k := (8 + q) / 2) ) ⟨callB_of 3 hts (gd kw_435) rfl rfl rfl (hts _ kw_41) (hts _ kw_433) (by decide +kernel) ⟨Nat.le_of_ble_eq_true rfl, Nat.le_of_ble_eq_true rfl⟩, (hts _ kw_434)⟩ ⟨fun a U g mk q => by obtain ⟨q0, qP, qK⟩ := q; exact ⟨q0, qP, qK.call⟩, fun U hU hW => ⟨rfl, by rw [hU]; exact hP.sub [] rfl, hKN.warm hW⟩⟩ rfl rfl hl.1 rfl (lv_room (Nat.le_of_ble_eq_true rfl)) d_Mo_signed_129 ⟨Nat.zero_le _, Nat.zero_le _⟩) ?_
                        refine lv_goto (tgt := 146) hx hb d_Mo_signed_132 (by decide) ?_
                        refine lv_istore (lv' := [(4, .int (ab (sgLeaf (fun i => M (b + i)) q) (M (b + 11)) ((8 + q) / 2))), (7, .int (M (b + 11))), (6, .int (nI 11)), (5, .int (nI (8 + q))), (3, .int (root sc)), (2, .int (M (b + 4))), (0, .ref hm), (1, .int (nI b))]) hx hb d_Mo_signed_146 hl (by decide) rfl (fun ls hl => ?_)
                        refine lv_iload hx hb d_Mo_signed_148 (lv_at hl 3 rfl) ?_
                        refine lv_iconst (v := (nI 2)) hx hb d_Mo_signed_150 (by decide) ?_
                        refine lv_idiv hx hb d_Mo_signed_151 (by decide) ?_
                        refine tp (pk_div (by omega) (by decide) (by decide)) ?_
                        refine lv_istore (lv' := [(5, .int (nI ((8 + q) / 2))), (4, .int (ab (sgLeaf (fun i => M (b + i)) q) (M (b + 11)) ((8 + q) / 2))), (7, .int (M (b + 11))), (6, .int (nI 11)), (3, .int (root sc)), (2, .int (M (b + 4))), (0, .ref hm), (1, .int (nI b))]) hx hb d_Mo_signed_152 hl (by decide) rfl (fun ls hl => ?_)
                        refine lv_iinc (k := 3) (v := (nI 12)) (lv' := [(6, .int (nI 12)), (5, .int (nI ((8 + q) / 2))), (4, .int (ab (sgLeaf (fun i => M (b + i)) q) (M (b + 11)) ((8 + q) / 2))), (7, .int (M (b + 11))), (3, .int (root sc)), (2, .int (M (b + 4))), (0, .ref hm), (1, .int (nI b))]) hx hb d_Mo_signed_154 hl rfl (by decide) (by decide) rfl (fun ls hl => ?_)
                        refine lv_goto (tgt := 96) hx hb d_Mo_signed_157 (by decide) ?_
                        refine lv_iload hx hb d_Mo_signed_96 (lv_at hl 0 rfl) ?_
                        refine lv_bipush (v := (nI 14)) hx hb d_Mo_signed_98 (by decide) ?_
                        refine nb_ge (tgt := 160) hx hb d_Mo_signed_100 (by decide) (by decide) (by decide) (fun h_28 => ?_) (fun h_28 => ?_)
                        · exact absurd h_28 (by decide)
                        · refine lv_aload_n hx hb d_Mo_signed_103 rfl (lv_at hl 6 rfl) ?_
                          refine va_get (D := (dC, dI)) (ci := 3) (v := .ref hw) (C := R_Mo) (T := F_Mo) (N := 15) hx hb hts in_Mo hown hK hP 0 rfl rfl 1 (by decide) (hts _ kw_440) (fun _ h9 => h9) rfl d_Mo_signed_104 ?_
                          refine lv_iload_n hx hb d_Mo_signed_107 rfl (lv_at hl 7 rfl) ?_
                          refine lv_iload hx hb d_Mo_signed_108 (lv_at hl 0 rfl) ?_
                          refine lv_iadd hx hb d_Mo_signed_110 ?_
                          refine tp (nI_add _ _) ?_
                          refine ar_ld (k := b + 12) hx hb hK hP 1 0 rfl rfl (by omega) (by first | decide | omega) d_Mo_signed_111 ?_
                          refine lv_istore (lv' := [(7, .int (M (b + 12))), (6, .int (nI 12)), (5, .int (nI ((8 + q) / 2))), (4, .int (ab (sgLeaf (fun i => M (b + i)) q) (M (b + 11)) ((8 + q) / 2))), (3, .int (root sc)), (2, .int (M (b + 4))), (0, .ref hm), (1, .int (nI b))]) hx hb d_Mo_signed_112 hl (by decide) rfl (fun ls hl => ?_)
                          refine lv_iload hx hb d_Mo_signed_114 (lv_at hl 2 rfl) ?_
                          refine lv_iconst (v := (nI 2)) hx hb d_Mo_signed_116 (by decide) ?_
                          refine lv_irem hx hb d_Mo_signed_117 (by decide) ?_
                          refine tp (pk_rem (by omega) (by decide) (by decide)) ?_
                          refine nz_ne (tgt := 135) hx hb d_Mo_signed_118 (by decide) (by omega) (fun h_29 => ?_) (fun h_29 => ?_)
                          · refine lv_iload hx hb d_Mo_signed_135 (lv_at hl 0 rfl) ?_
                            refine lv_iload hx hb d_Mo_signed_137 (lv_at hl 3 rfl) ?_
                            refine lv_iload hx hb d_Mo_signed_139 (lv_at hl 2 rfl) ?_
                            refine lv_iconst (v := (nI 2)) hx hb d_Mo_signed_141 (by decide) ?_
                            refine lv_idiv hx hb d_Mo_signed_142 (by decide) ?_
                            refine tp (pk_div (by omega) (by decide) (by decide)) ?_
                            refine pr_call (va_runS (As := [.int (M (b + 12)), .int (ab (sgLeaf (fun i => M (b + i)) q) (M (b + 11)) ((8 + q) / 2)), .int (nI (((8 + q) / 2) / 2))]) (rest := []) ⟨hx, hb, hml, hown, hts⟩ (c_Mo_join l dC dI cI (a := M (b + 12)) (b := ab (sgLeaf (fun i => M (b + i)) q) (M (b + 11)) ((8 + q) / 2)) (k := ((8 + q) / 2) / 2) ) ⟨callB_of 3 hts (gd kw_435) rfl rfl rfl (hts _ kw_41) (hts _ kw_433) (by decide +kernel) ⟨Nat.le_of_ble_eq_true rfl, Nat.le_of_ble_eq_true rfl⟩, (hts _ kw_434)⟩ ⟨fun a U g mk q => by obtain ⟨q0, qP, qK⟩ := q; exact ⟨q0, qP, qK.call⟩, fun U hU hW => ⟨rfl, by rw [hU]; exact hP.sub [] rfl, hKN.warm hW⟩⟩ rfl rfl hl.1 rfl (lv_room (Nat.le_of_ble_eq_true rfl)) d_Mo_signed_143 ⟨Nat.zero_le _, Nat.zero_le _⟩) ?_
                            refine lv_istore (lv' := [(4, .int (ab (M (b + 12)) (ab (sgLeaf (fun i => M (b + i)) q) (M (b + 11)) ((8 + q) / 2)) (((8 + q) / 2) / 2))), (7, .int (M (b + 12))), (6, .int (nI 12)), (5, .int (nI ((8 + q) / 2))), (3, .int (root sc)), (2, .int (M (b + 4))), (0, .ref hm), (1, .int (nI b))]) hx hb d_Mo_signed_146 hl (by decide) rfl (fun ls hl => ?_)
                            refine lv_iload hx hb d_Mo_signed_148 (lv_at hl 3 rfl) ?_
                            refine lv_iconst (v := (nI 2)) hx hb d_Mo_signed_150 (by decide) ?_
                            refine lv_idiv hx hb d_Mo_signed_151 (by decide) ?_
                            refine tp (pk_div (by omega) (by decide) (by decide)) ?_
                            refine lv_istore (lv' := [(5, .int (nI (((8 + q) / 2) / 2))), (4, .int (ab (M (b + 12)) (ab (sgLeaf (fun i => M (b + i)) q) (M (b + 11)) ((8 + q) / 2)) (((8 + q) / 2) / 2))), (7, .int (M (b + 12))), (6, .int (nI 12)), (3, .int (root sc)), (2, .int (M (b + 4))), (0, .ref hm), (1, .int (nI b))]) hx hb d_Mo_signed_152 hl (by decide) rfl (fun ls hl => ?_)
                            refine lv_iinc (k := 3) (v := (nI 13)) (lv' := [(6, .int (nI 13)), (5, .int (nI (((8 + q) / 2) / 2))), (4, .int (ab (M (b + 12)) (ab (sgLeaf (fun i => M (b + i)) q) (M (b + 11)) ((8 + q) / 2)) (((8 + q) / 2) / 2))), (7, .int (M (b + 12))), (3, .int (root sc)), (2, .int (M (b + 4))), (0, .ref hm), (1, .int (nI b))]) hx hb d_Mo_signed_154 hl rfl (by decide) (by decide) rfl (fun ls hl => ?_)
                            refine lv_goto (tgt := 96) hx hb d_Mo_signed_157 (by decide) ?_
                            refine lv_iload hx hb d_Mo_signed_96 (lv_at hl 0 rfl) ?_
                            refine lv_bipush (v := (nI 14)) hx hb d_Mo_signed_98 (by decide) ?_
                            refine nb_ge (tgt := 160) hx hb d_Mo_signed_100 (by decide) (by decide) (by decide) (fun h_30 => ?_) (fun h_30 => ?_)
                            · exact absurd h_30 (by decide)
                            · refine lv_aload_n hx hb d_Mo_signed_103 rfl (lv_at hl 6 rfl) ?_
                              refine va_get (D := (dC, dI)) (ci := 3) (v := .ref hw) (C := R_Mo) (T := F_Mo) (N := 15) hx hb hts in_Mo hown hK hP 0 rfl rfl 1 (by decide) (hts _ kw_440) (fun _ h9 => h9) rfl d_Mo_signed_104 ?_
                              refine lv_iload_n hx hb d_Mo_signed_107 rfl (lv_at hl 7 rfl) ?_
                              refine lv_iload hx hb d_Mo_signed_108 (lv_at hl 0 rfl) ?_
                              refine lv_iadd hx hb d_Mo_signed_110 ?_
                              refine tp (nI_add _ _) ?_
                              refine ar_ld (k := b + 13) hx hb hK hP 1 0 rfl rfl (by omega) (by first | decide | omega) d_Mo_signed_111 ?_
                              refine lv_istore (lv' := [(7, .int (M (b + 13))), (6, .int (nI 13)), (5, .int (nI (((8 + q) / 2) / 2))), (4, .int (ab (M (b + 12)) (ab (sgLeaf (fun i => M (b + i)) q) (M (b + 11)) ((8 + q) / 2)) (((8 + q) / 2) / 2))), (3, .int (root sc)), (2, .int (M (b + 4))), (0, .ref hm), (1, .int (nI b))]) hx hb d_Mo_signed_112 hl (by decide) rfl (fun ls hl => ?_)
                              refine lv_iload hx hb d_Mo_signed_114 (lv_at hl 2 rfl) ?_
                              refine lv_iconst (v := (nI 2)) hx hb d_Mo_signed_116 (by decide) ?_
                              refine lv_irem hx hb d_Mo_signed_117 (by decide) ?_
                              refine tp (pk_rem (by omega) (by decide) (by decide)) ?_
                              refine nz_ne (tgt := 135) hx hb d_Mo_signed_118 (by decide) (by omega) (fun h_31 => ?_) (fun h_31 => ?_)
                              · refine lv_iload hx hb d_Mo_signed_135 (lv_at hl 0 rfl) ?_
                                refine lv_iload hx hb d_Mo_signed_137 (lv_at hl 3 rfl) ?_
                                refine lv_iload hx hb d_Mo_signed_139 (lv_at hl 2 rfl) ?_
                                refine lv_iconst (v := (nI 2)) hx hb d_Mo_signed_141 (by decide) ?_
                                refine lv_idiv hx hb d_Mo_signed_142 (by decide) ?_
                                refine tp (pk_div (by omega) (by decide) (by decide)) ?_
                                refine pr_call (va_runS (As := [.int (M (b + 13)), .int (ab (M (b + 12)) (ab (sgLeaf (fun i => M (b + i)) q) (M (b + 11)) ((8 + q) / 2)) (((8 + q) / 2) / 2)), .int (nI ((((8 + q) / 2) / 2) / 2))]) (rest := []) ⟨hx, hb, hml, hown, hts⟩ (c_Mo_join l dC dI cI (a := M (b + 13)) (b := ab (M (b + 12)) (ab (sgLeaf (fun i => M (b + i)) q) (M (b + 11)) ((8 + q) / 2)) (((8 + q) / 2) / 2)) (k := (((8 + q) / 2) / 2) / 2) ) ⟨callB_of 3 hts (gd kw_435) rfl rfl rfl (hts _ kw_41) (hts _ kw_433) (by decide +kernel) ⟨Nat.le_of_ble_eq_true rfl, Nat.le_of_ble_eq_true rfl⟩, (hts _ kw_434)⟩ ⟨fun a U g mk q => by obtain ⟨q0, qP, qK⟩ := q; exact ⟨q0, qP, qK.call⟩, fun U hU hW => ⟨rfl, by rw [hU]; exact hP.sub [] rfl, hKN.warm hW⟩⟩ rfl rfl hl.1 rfl (lv_room (Nat.le_of_ble_eq_true rfl)) d_Mo_signed_143 ⟨Nat.zero_le _, Nat.zero_le _⟩) ?_
                                refine lv_istore (lv' := [(4, .int (ab (M (b + 13)) (ab (M (b + 12)) (ab (sgLeaf (fun i => M (b + i)) q) (M (b + 11)) ((8 + q) / 2)) (((8 + q) / 2) / 2)) ((((8 + q) / 2) / 2) / 2))), (7, .int (M (b + 13))), (6, .int (nI 13)), (5, .int (nI (((8 + q) / 2) / 2))), (3, .int (root sc)), (2, .int (M (b + 4))), (0, .ref hm), (1, .int (nI b))]) hx hb d_Mo_signed_146 hl (by decide) rfl (fun ls hl => ?_)
                                refine lv_iload hx hb d_Mo_signed_148 (lv_at hl 3 rfl) ?_
                                refine lv_iconst (v := (nI 2)) hx hb d_Mo_signed_150 (by decide) ?_
                                refine lv_idiv hx hb d_Mo_signed_151 (by decide) ?_
                                refine tp (pk_div (by omega) (by decide) (by decide)) ?_
                                refine lv_istore (lv' := [(5, .int (nI ((((8 + q) / 2) / 2) / 2))), (4, .int (ab (M (b + 13)) (ab (M (b + 12)) (ab (sgLeaf (fun i => M (b + i)) q) (M (b + 11)) ((8 + q) / 2)) (((8 + q) / 2) / 2)) ((((8 + q) / 2) / 2) / 2))), (7, .int (M (b + 13))), (6, .int (nI 13)), (3, .int (root sc)), (2, .int (M (b + 4))), (0, .ref hm), (1, .int (nI b))]) hx hb d_Mo_signed_152 hl (by decide) rfl (fun ls hl => ?_)
                                refine lv_iinc (k := 3) (v := (nI 14)) (lv' := [(6, .int (nI 14)), (5, .int (nI ((((8 + q) / 2) / 2) / 2))), (4, .int (ab (M (b + 13)) (ab (M (b + 12)) (ab (sgLeaf (fun i => M (b + i)) q) (M (b + 11)) ((8 + q) / 2)) (((8 + q) / 2) / 2)) ((((8 + q) / 2) / 2) / 2))), (7, .int (M (b + 13))), (3, .int (root sc)), (2, .int (M (b + 4))), (0, .ref hm), (1, .int (nI b))]) hx hb d_Mo_signed_154 hl rfl (by decide) (by decide) rfl (fun ls hl => ?_)
                                refine lv_goto (tgt := 96) hx hb d_Mo_signed_157 (by decide) ?_
                                refine lv_iload hx hb d_Mo_signed_96 (lv_at hl 0 rfl) ?_
                                refine lv_bipush (v := (nI 14)) hx hb d_Mo_signed_98 (by decide) ?_
                                refine nb_ge (tgt := 160) hx hb d_Mo_signed_100 (by decide) (by decide) (by decide) (fun h_32 => ?_) (fun h_32 => ?_)
                                · refine lv_iload hx hb d_Mo_signed_160 (lv_at hl 2 rfl) ?_
                                  refine lv_iload_n hx hb d_Mo_signed_162 rfl (lv_at hl 4 rfl) ?_
                                  refine lv_icmp_ne (tgt := 170) hx hb d_Mo_signed_163 (by decide) (fun h_33 => ?_) (fun h_33 => ?_)
                                  · refine lv_iconst (v := (nI 0)) hx hb d_Mo_signed_170 (by decide) ?_
                                    exact W.zret (v := (bI false)) hx hb hr (bI_narrow _) (fun t ht hW => ⟨⟨_, (dg_4, upd (upd (upd (upd (upd (upd ed_3 0 (al 0 (15 - (dgt (ms4 (fun i => M (b + i))) 0)) (dgt (ms4 (fun i => M (b + i))) 0) (M (b + 5)))) 1 (al 1 (15 - (dgt (ms4 (fun i => M (b + i))) 1)) (dgt (ms4 (fun i => M (b + i))) 1) (M (b + 6)))) 2 (al 2 (15 - (dgt (ms4 (fun i => M (b + i))) 2)) (dgt (ms4 (fun i => M (b + i))) 2) (M (b + 7)))) 3 (al 3 (15 - (dgt (ms4 (fun i => M (b + i))) 3)) (dgt (ms4 (fun i => M (b + i))) 3) (M (b + 8)))) 4 (al 4 (15 - (dgt (ms4 (fun i => M (b + i))) 4)) (dgt (ms4 (fun i => M (b + i))) 4) (M (b + 9)))) 5 (al 5 (15 - (dgt (ms4 (fun i => M (b + i))) 5)) (dgt (ms4 (fun i => M (b + i))) 5) (M (b + 10))), nd_3), rfl, ⟨false, rfl, (by rw [sgOk_q (r := (fun i => M (b + i))) hq hq8]; simp only [sgTop, up1, if_pos h_13, if_neg h_29, if_neg h_31]; exact (decide_eq_false h_33).symm)⟩, by rw [ht]; exact hP, hD⟩, hS.F ht⟩) hS.2.2 d_Mo_signed_171
                                  · refine lv_iconst (v := (nI 1)) hx hb d_Mo_signed_166 (by decide) ?_
                                    refine lv_goto (tgt := 171) hx hb d_Mo_signed_167 (by decide) ?_
                                    exact W.zret (v := (bI true)) hx hb hr (bI_narrow _) (fun t ht hW => ⟨⟨_, (dg_4, upd (upd (upd (upd (upd (upd ed_3 0 (al 0 (15 - (dgt (ms4 (fun i => M (b + i))) 0)) (dgt (ms4 (fun i => M (b + i))) 0) (M (b + 5)))) 1 (al 1 (15 - (dgt (ms4 (fun i => M (b + i))) 1)) (dgt (ms4 (fun i => M (b + i))) 1) (M (b + 6)))) 2 (al 2 (15 - (dgt (ms4 (fun i => M (b + i))) 2)) (dgt (ms4 (fun i => M (b + i))) 2) (M (b + 7)))) 3 (al 3 (15 - (dgt (ms4 (fun i => M (b + i))) 3)) (dgt (ms4 (fun i => M (b + i))) 3) (M (b + 8)))) 4 (al 4 (15 - (dgt (ms4 (fun i => M (b + i))) 4)) (dgt (ms4 (fun i => M (b + i))) 4) (M (b + 9)))) 5 (al 5 (15 - (dgt (ms4 (fun i => M (b + i))) 5)) (dgt (ms4 (fun i => M (b + i))) 5) (M (b + 10))), nd_3), rfl, ⟨true, rfl, (by rw [sgOk_q (r := (fun i => M (b + i))) hq hq8]; simp only [sgTop, up1, if_pos h_13, if_neg h_29, if_neg h_31]; exact (decide_eq_true h_33).symm)⟩, by rw [ht]; exact hP, hD⟩, hS.F ht⟩) hS.2.2 d_Mo_signed_171
                                · exact absurd h_32 (by decide)
                              · refine lv_iload hx hb d_Mo_signed_121 (lv_at hl 3 rfl) ?_
                                refine lv_iload hx hb d_Mo_signed_123 (lv_at hl 0 rfl) ?_
                                refine lv_iload hx hb d_Mo_signed_125 (lv_at hl 2 rfl) ?_
                                refine lv_iconst (v := (nI 2)) hx hb d_Mo_signed_127 (by decide) ?_
                                refine lv_idiv hx hb d_Mo_signed_128 (by decide) ?_
                                refine tp (pk_div (by omega) (by decide) (by decide)) ?_
                                refine pr_call (va_runS (As := [.int (ab (M (b + 12)) (ab (sgLeaf (fun i => M (b + i)) q) (M (b + 11)) ((8 + q) / 2)) (((8 + q) / 2) / 2)), .int (M (b + 13)), .int (nI ((((8 + q) / 2) / 2) / 2))]) (rest := []) ⟨hx, hb, hml, hown, hts⟩ (c_Mo_join l dC dI cI (a := ab (M (b + 12)) (ab (sgLeaf (fun i => M (b + i)) q) (M (b + 11)) ((8 + q) / 2)) (((8 + q) / 2) / 2)) (b := M (b + 13)) (k := (((8 + q) / 2) / 2) / 2) ) ⟨callB_of 3 hts (gd kw_435) rfl rfl rfl (hts _ kw_41) (hts _ kw_433) (by decide +kernel) ⟨Nat.le_of_ble_eq_true rfl, Nat.le_of_ble_eq_true rfl⟩, (hts _ kw_434)⟩ ⟨fun a U g mk q => by obtain ⟨q0, qP, qK⟩ := q; exact ⟨q0, qP, qK.call⟩, fun U hU hW => ⟨rfl, by rw [hU]; exact hP.sub [] rfl, hKN.warm hW⟩⟩ rfl rfl hl.1 rfl (lv_room (Nat.le_of_ble_eq_true rfl)) d_Mo_signed_129 ⟨Nat.zero_le _, Nat.zero_le _⟩) ?_
                                refine lv_goto (tgt := 146) hx hb d_Mo_signed_132 (by decide) ?_
                                refine lv_istore (lv' := [(4, .int (ab (ab (M (b + 12)) (ab (sgLeaf (fun i => M (b + i)) q) (M (b + 11)) ((8 + q) / 2)) (((8 + q) / 2) / 2)) (M (b + 13)) ((((8 + q) / 2) / 2) / 2))), (7, .int (M (b + 13))), (6, .int (nI 13)), (5, .int (nI (((8 + q) / 2) / 2))), (3, .int (root sc)), (2, .int (M (b + 4))), (0, .ref hm), (1, .int (nI b))]) hx hb d_Mo_signed_146 hl (by decide) rfl (fun ls hl => ?_)
                                refine lv_iload hx hb d_Mo_signed_148 (lv_at hl 3 rfl) ?_
                                refine lv_iconst (v := (nI 2)) hx hb d_Mo_signed_150 (by decide) ?_
                                refine lv_idiv hx hb d_Mo_signed_151 (by decide) ?_
                                refine tp (pk_div (by omega) (by decide) (by decide)) ?_
                                refine lv_istore (lv' := [(5, .int (nI ((((8 + q) / 2) / 2) / 2))), (4, .int (ab (ab (M (b + 12)) (ab (sgLeaf (fun i => M (b + i)) q) (M (b + 11)) ((8 + q) / 2)) (((8 + q) / 2) / 2)) (M (b + 13)) ((((8 + q) / 2) / 2) / 2))), (7, .int (M (b + 13))), (6, .int (nI 13)), (3, .int (root sc)), (2, .int (M (b + 4))), (0, .ref hm), (1, .int (nI b))]) hx hb d_Mo_signed_152 hl (by decide) rfl (fun ls hl => ?_)
                                refine lv_iinc (k := 3) (v := (nI 14)) (lv' := [(6, .int (nI 14)), (5, .int (nI ((((8 + q) / 2) / 2) / 2))), (4, .int (ab (ab (M (b + 12)) (ab (sgLeaf (fun i => M (b + i)) q) (M (b + 11)) ((8 + q) / 2)) (((8 + q) / 2) / 2)) (M (b + 13)) ((((8 + q) / 2) / 2) / 2))), (7, .int (M (b + 13))), (3, .int (root sc)), (2, .int (M (b + 4))), (0, .ref hm), (1, .int (nI b))]) hx hb d_Mo_signed_154 hl rfl (by decide) (by decide) rfl (fun ls hl => ?_)
                                refine lv_goto (tgt := 96) hx hb d_Mo_signed_157 (by decide) ?_
                                refine lv_iload hx hb d_Mo_signed_96 (lv_at hl 0 rfl) ?_
                                refine lv_bipush (v := (nI 14)) hx hb d_Mo_signed_98 (by decide) ?_
                                refine nb_ge (tgt := 160) hx hb d_Mo_signed_100 (by decide) (by decide) (by decide) (fun h_34 => ?_) (fun h_34 => ?_)
                                · refine lv_iload hx hb d_Mo_signed_160 (lv_at hl 2 rfl) ?_
                                  refine lv_iload_n hx hb d_Mo_signed_162 rfl (lv_at hl 4 rfl) ?_
                                  refine lv_icmp_ne (tgt := 170) hx hb d_Mo_signed_163 (by decide) (fun h_35 => ?_) (fun h_35 => ?_)
                                  · refine lv_iconst (v := (nI 0)) hx hb d_Mo_signed_170 (by decide) ?_
                                    exact W.zret (v := (bI false)) hx hb hr (bI_narrow _) (fun t ht hW => ⟨⟨_, (dg_4, upd (upd (upd (upd (upd (upd ed_3 0 (al 0 (15 - (dgt (ms4 (fun i => M (b + i))) 0)) (dgt (ms4 (fun i => M (b + i))) 0) (M (b + 5)))) 1 (al 1 (15 - (dgt (ms4 (fun i => M (b + i))) 1)) (dgt (ms4 (fun i => M (b + i))) 1) (M (b + 6)))) 2 (al 2 (15 - (dgt (ms4 (fun i => M (b + i))) 2)) (dgt (ms4 (fun i => M (b + i))) 2) (M (b + 7)))) 3 (al 3 (15 - (dgt (ms4 (fun i => M (b + i))) 3)) (dgt (ms4 (fun i => M (b + i))) 3) (M (b + 8)))) 4 (al 4 (15 - (dgt (ms4 (fun i => M (b + i))) 4)) (dgt (ms4 (fun i => M (b + i))) 4) (M (b + 9)))) 5 (al 5 (15 - (dgt (ms4 (fun i => M (b + i))) 5)) (dgt (ms4 (fun i => M (b + i))) 5) (M (b + 10))), nd_3), rfl, ⟨false, rfl, (by rw [sgOk_q (r := (fun i => M (b + i))) hq hq8]; simp only [sgTop, up1, if_pos h_13, if_neg h_29, if_pos h_31]; exact (decide_eq_false h_35).symm)⟩, by rw [ht]; exact hP, hD⟩, hS.F ht⟩) hS.2.2 d_Mo_signed_171
                                  · refine lv_iconst (v := (nI 1)) hx hb d_Mo_signed_166 (by decide) ?_
                                    refine lv_goto (tgt := 171) hx hb d_Mo_signed_167 (by decide) ?_
                                    exact W.zret (v := (bI true)) hx hb hr (bI_narrow _) (fun t ht hW => ⟨⟨_, (dg_4, upd (upd (upd (upd (upd (upd ed_3 0 (al 0 (15 - (dgt (ms4 (fun i => M (b + i))) 0)) (dgt (ms4 (fun i => M (b + i))) 0) (M (b + 5)))) 1 (al 1 (15 - (dgt (ms4 (fun i => M (b + i))) 1)) (dgt (ms4 (fun i => M (b + i))) 1) (M (b + 6)))) 2 (al 2 (15 - (dgt (ms4 (fun i => M (b + i))) 2)) (dgt (ms4 (fun i => M (b + i))) 2) (M (b + 7)))) 3 (al 3 (15 - (dgt (ms4 (fun i => M (b + i))) 3)) (dgt (ms4 (fun i => M (b + i))) 3) (M (b + 8)))) 4 (al 4 (15 - (dgt (ms4 (fun i => M (b + i))) 4)) (dgt (ms4 (fun i => M (b + i))) 4) (M (b + 9)))) 5 (al 5 (15 - (dgt (ms4 (fun i => M (b + i))) 5)) (dgt (ms4 (fun i => M (b + i))) 5) (M (b + 10))), nd_3), rfl, ⟨true, rfl, (by rw [sgOk_q (r := (fun i => M (b + i))) hq hq8]; simp only [sgTop, up1, if_pos h_13, if_neg h_29, if_pos h_31]; exact (decide_eq_true h_35).symm)⟩, by rw [ht]; exact hP, hD⟩, hS.F ht⟩) hS.2.2 d_Mo_signed_171
                                · exact absurd h_34 (by decide)
                          · refine lv_iload hx hb d_Mo_signed_121 (lv_at hl 3 rfl) ?_
                            refine lv_iload hx hb d_Mo_signed_123 (lv_at hl 0 rfl) ?_
                            refine lv_iload hx hb d_Mo_signed_125 (lv_at hl 2 rfl) ?_
                            refine lv_iconst (v := (nI 2)) hx hb d_Mo_signed_127 (by decide) ?_
                            refine lv_idiv hx hb d_Mo_signed_128 (by decide) ?_
                            refine tp (pk_div (by omega) (by decide) (by decide)) ?_
                            refine pr_call (va_runS (As := [.int (ab (sgLeaf (fun i => M (b + i)) q) (M (b + 11)) ((8 + q) / 2)), .int (M (b + 12)), .int (nI (((8 + q) / 2) / 2))]) (rest := []) ⟨hx, hb, hml, hown, hts⟩ (c_Mo_join l dC dI cI (a := ab (sgLeaf (fun i => M (b + i)) q) (M (b + 11)) ((8 + q) / 2)) (b := M (b + 12)) (k := ((8 + q) / 2) / 2) ) ⟨callB_of 3 hts (gd kw_435) rfl rfl rfl (hts _ kw_41) (hts _ kw_433) (by decide +kernel) ⟨Nat.le_of_ble_eq_true rfl, Nat.le_of_ble_eq_true rfl⟩, (hts _ kw_434)⟩ ⟨fun a U g mk q => by obtain ⟨q0, qP, qK⟩ := q; exact ⟨q0, qP, qK.call⟩, fun U hU hW => ⟨rfl, by rw [hU]; exact hP.sub [] rfl, hKN.warm hW⟩⟩ rfl rfl hl.1 rfl (lv_room (Nat.le_of_ble_eq_true rfl)) d_Mo_signed_129 ⟨Nat.zero_le _, Nat.zero_le _⟩) ?_
                            refine lv_goto (tgt := 146) hx hb d_Mo_signed_132 (by decide) ?_
                            refine lv_istore (lv' := [(4, .int (ab (ab (sgLeaf (fun i => M (b + i)) q) (M (b + 11)) ((8 + q) / 2)) (M (b + 12)) (((8 + q) / 2) / 2))), (7, .int (M (b + 12))), (6, .int (nI 12)), (5, .int (nI ((8 + q) / 2))), (3, .int (root sc)), (2, .int (M (b + 4))), (0, .ref hm), (1, .int (nI b))]) hx hb d_Mo_signed_146 hl (by decide) rfl (fun ls hl => ?_)
                            refine lv_iload hx hb d_Mo_signed_148 (lv_at hl 3 rfl) ?_
                            refine lv_iconst (v := (nI 2)) hx hb d_Mo_signed_150 (by decide) ?_
                            refine lv_idiv hx hb d_Mo_signed_151 (by decide) ?_
                            refine tp (pk_div (by omega) (by decide) (by decide)) ?_
                            refine lv_istore (lv' := [(5, .int (nI (((8 + q) / 2) / 2))), (4, .int (ab (ab (sgLeaf (fun i => M (b + i)) q) (M (b + 11)) ((8 + q) / 2)) (M (b + 12)) (((8 + q) / 2) / 2))), (7, .int (M (b + 12))), (6, .int (nI 12)), (3, .int (root sc)), (2, .int (M (b + 4))), (0, .ref hm), (1, .int (nI b))]) hx hb d_Mo_signed_152 hl (by decide) rfl (fun ls hl => ?_)
                            refine lv_iinc (k := 3) (v := (nI 13)) (lv' := [(6, .int (nI 13)), (5, .int (nI (((8 + q) / 2) / 2))), (4, .int (ab (ab (sgLeaf (fun i => M (b + i)) q) (M (b + 11)) ((8 + q) / 2)) (M (b + 12)) (((8 + q) / 2) / 2))), (7, .int (M (b + 12))), (3, .int (root sc)), (2, .int (M (b + 4))), (0, .ref hm), (1, .int (nI b))]) hx hb d_Mo_signed_154 hl rfl (by decide) (by decide) rfl (fun ls hl => ?_)
                            refine lv_goto (tgt := 96) hx hb d_Mo_signed_157 (by decide) ?_
                            refine lv_iload hx hb d_Mo_signed_96 (lv_at hl 0 rfl) ?_
                            refine lv_bipush (v := (nI 14)) hx hb d_Mo_signed_98 (by decide) ?_
                            refine nb_ge (tgt := 160) hx hb d_Mo_signed_100 (by decide) (by decide) (by decide) (fun h_36 => ?_) (fun h_36 => ?_)
                            · exact absurd h_36 (by decide)
                            · refine lv_aload_n hx hb d_Mo_signed_103 rfl (lv_at hl 6 rfl) ?_
                              refine va_get (D := (dC, dI)) (ci := 3) (v := .ref hw) (C := R_Mo) (T := F_Mo) (N := 15) hx hb hts in_Mo hown hK hP 0 rfl rfl 1 (by decide) (hts _ kw_440) (fun _ h9 => h9) rfl d_Mo_signed_104 ?_
                              refine lv_iload_n hx hb d_Mo_signed_107 rfl (lv_at hl 7 rfl) ?_
                              refine lv_iload hx hb d_Mo_signed_108 (lv_at hl 0 rfl) ?_
                              refine lv_iadd hx hb d_Mo_signed_110 ?_
                              refine tp (nI_add _ _) ?_
                              refine ar_ld (k := b + 13) hx hb hK hP 1 0 rfl rfl (by omega) (by first | decide | omega) d_Mo_signed_111 ?_
                              refine lv_istore (lv' := [(7, .int (M (b + 13))), (6, .int (nI 13)), (5, .int (nI (((8 + q) / 2) / 2))), (4, .int (ab (ab (sgLeaf (fun i => M (b + i)) q) (M (b + 11)) ((8 + q) / 2)) (M (b + 12)) (((8 + q) / 2) / 2))), (3, .int (root sc)), (2, .int (M (b + 4))), (0, .ref hm), (1, .int (nI b))]) hx hb d_Mo_signed_112 hl (by decide) rfl (fun ls hl => ?_)
                              refine lv_iload hx hb d_Mo_signed_114 (lv_at hl 2 rfl) ?_
                              refine lv_iconst (v := (nI 2)) hx hb d_Mo_signed_116 (by decide) ?_
                              refine lv_irem hx hb d_Mo_signed_117 (by decide) ?_
                              refine tp (pk_rem (by omega) (by decide) (by decide)) ?_
                              refine nz_ne (tgt := 135) hx hb d_Mo_signed_118 (by decide) (by omega) (fun h_37 => ?_) (fun h_37 => ?_)
                              · refine lv_iload hx hb d_Mo_signed_135 (lv_at hl 0 rfl) ?_
                                refine lv_iload hx hb d_Mo_signed_137 (lv_at hl 3 rfl) ?_
                                refine lv_iload hx hb d_Mo_signed_139 (lv_at hl 2 rfl) ?_
                                refine lv_iconst (v := (nI 2)) hx hb d_Mo_signed_141 (by decide) ?_
                                refine lv_idiv hx hb d_Mo_signed_142 (by decide) ?_
                                refine tp (pk_div (by omega) (by decide) (by decide)) ?_
                                refine pr_call (va_runS (As := [.int (M (b + 13)), .int (ab (ab (sgLeaf (fun i => M (b + i)) q) (M (b + 11)) ((8 + q) / 2)) (M (b + 12)) (((8 + q) / 2) / 2)), .int (nI ((((8 + q) / 2) / 2) / 2))]) (rest := []) ⟨hx, hb, hml, hown, hts⟩ (c_Mo_join l dC dI cI (a := M (b + 13)) (b := ab (ab (sgLeaf (fun i => M (b + i)) q) (M (b + 11)) ((8 + q) / 2)) (M (b + 12)) (((8 + q) / 2) / 2)) (k := (((8 + q) / 2) / 2) / 2) ) ⟨callB_of 3 hts (gd kw_435) rfl rfl rfl (hts _ kw_41) (hts _ kw_433) (by decide +kernel) ⟨Nat.le_of_ble_eq_true rfl, Nat.le_of_ble_eq_true rfl⟩, (hts _ kw_434)⟩ ⟨fun a U g mk q => by obtain ⟨q0, qP, qK⟩ := q; exact ⟨q0, qP, qK.call⟩, fun U hU hW => ⟨rfl, by rw [hU]; exact hP.sub [] rfl, hKN.warm hW⟩⟩ rfl rfl hl.1 rfl (lv_room (Nat.le_of_ble_eq_true rfl)) d_Mo_signed_143 ⟨Nat.zero_le _, Nat.zero_le _⟩) ?_
                                refine lv_istore (lv' := [(4, .int (ab (M (b + 13)) (ab (ab (sgLeaf (fun i => M (b + i)) q) (M (b + 11)) ((8 + q) / 2)) (M (b + 12)) (((8 + q) / 2) / 2)) ((((8 + q) / 2) / 2) / 2))), (7, .int (M (b + 13))), (6, .int (nI 13)), (5, .int (nI (((8 + q) / 2) / 2))), (3, .int (root sc)), (2, .int (M (b + 4))), (0, .ref hm), (1, .int (nI b))]) hx hb d_Mo_signed_146 hl (by decide) rfl (fun ls hl => ?_)
                                refine lv_iload hx hb d_Mo_signed_148 (lv_at hl 3 rfl) ?_
                                refine lv_iconst (v := (nI 2)) hx hb d_Mo_signed_150 (by decide) ?_
                                refine lv_idiv hx hb d_Mo_signed_151 (by decide) ?_
                                refine tp (pk_div (by omega) (by decide) (by decide)) ?_
                                refine lv_istore (lv' := [(5, .int (nI ((((8 + q) / 2) / 2) / 2))), (4, .int (ab (M (b + 13)) (ab (ab (sgLeaf (fun i => M (b + i)) q) (M (b + 11)) ((8 + q) / 2)) (M (b + 12)) (((8 + q) / 2) / 2)) ((((8 + q) / 2) / 2) / 2))), (7, .int (M (b + 13))), (6, .int (nI 13)), (3, .int (root sc)), (2, .int (M (b + 4))), (0, .ref hm), (1, .int (nI b))]) hx hb d_Mo_signed_152 hl (by decide) rfl (fun ls hl => ?_)
                                refine lv_iinc (k := 3) (v := (nI 14)) (lv' := [(6, .int (nI 14)), (5, .int (nI ((((8 + q) / 2) / 2) / 2))), (4, .int (ab (M (b + 13)) (ab (ab (sgLeaf (fun i => M (b + i)) q) (M (b + 11)) ((8 + q) / 2)) (M (b + 12)) (((8 + q) / 2) / 2)) ((((8 + q) / 2) / 2) / 2))), (7, .int (M (b + 13))), (3, .int (root sc)), (2, .int (M (b + 4))), (0, .ref hm), (1, .int (nI b))]) hx hb d_Mo_signed_154 hl rfl (by decide) (by decide) rfl (fun ls hl => ?_)
                                refine lv_goto (tgt := 96) hx hb d_Mo_signed_157 (by decide) ?_
                                refine lv_iload hx hb d_Mo_signed_96 (lv_at hl 0 rfl) ?_
                                refine lv_bipush (v := (nI 14)) hx hb d_Mo_signed_98 (by decide) ?_
                                refine nb_ge (tgt := 160) hx hb d_Mo_signed_100 (by decide) (by decide) (by decide) (fun h_38 => ?_) (fun h_38 => ?_)
                                · refine lv_iload hx hb d_Mo_signed_160 (lv_at hl 2 rfl) ?_
                                  refine lv_iload_n hx hb d_Mo_signed_162 rfl (lv_at hl 4 rfl) ?_
                                  refine lv_icmp_ne (tgt := 170) hx hb d_Mo_signed_163 (by decide) (fun h_39 => ?_) (fun h_39 => ?_)
                                  · refine lv_iconst (v := (nI 0)) hx hb d_Mo_signed_170 (by decide) ?_
                                    exact W.zret (v := (bI false)) hx hb hr (bI_narrow _) (fun t ht hW => ⟨⟨_, (dg_4, upd (upd (upd (upd (upd (upd ed_3 0 (al 0 (15 - (dgt (ms4 (fun i => M (b + i))) 0)) (dgt (ms4 (fun i => M (b + i))) 0) (M (b + 5)))) 1 (al 1 (15 - (dgt (ms4 (fun i => M (b + i))) 1)) (dgt (ms4 (fun i => M (b + i))) 1) (M (b + 6)))) 2 (al 2 (15 - (dgt (ms4 (fun i => M (b + i))) 2)) (dgt (ms4 (fun i => M (b + i))) 2) (M (b + 7)))) 3 (al 3 (15 - (dgt (ms4 (fun i => M (b + i))) 3)) (dgt (ms4 (fun i => M (b + i))) 3) (M (b + 8)))) 4 (al 4 (15 - (dgt (ms4 (fun i => M (b + i))) 4)) (dgt (ms4 (fun i => M (b + i))) 4) (M (b + 9)))) 5 (al 5 (15 - (dgt (ms4 (fun i => M (b + i))) 5)) (dgt (ms4 (fun i => M (b + i))) 5) (M (b + 10))), nd_3), rfl, ⟨false, rfl, (by rw [sgOk_q (r := (fun i => M (b + i))) hq hq8]; simp only [sgTop, up1, if_pos h_13, if_pos h_29, if_neg h_37]; exact (decide_eq_false h_39).symm)⟩, by rw [ht]; exact hP, hD⟩, hS.F ht⟩) hS.2.2 d_Mo_signed_171
                                  · refine lv_iconst (v := (nI 1)) hx hb d_Mo_signed_166 (by decide) ?_
                                    refine lv_goto (tgt := 171) hx hb d_Mo_signed_167 (by decide) ?_
                                    exact W.zret (v := (bI true)) hx hb hr (bI_narrow _) (fun t ht hW => ⟨⟨_, (dg_4, upd (upd (upd (upd (upd (upd ed_3 0 (al 0 (15 - (dgt (ms4 (fun i => M (b + i))) 0)) (dgt (ms4 (fun i => M (b + i))) 0) (M (b + 5)))) 1 (al 1 (15 - (dgt (ms4 (fun i => M (b + i))) 1)) (dgt (ms4 (fun i => M (b + i))) 1) (M (b + 6)))) 2 (al 2 (15 - (dgt (ms4 (fun i => M (b + i))) 2)) (dgt (ms4 (fun i => M (b + i))) 2) (M (b + 7)))) 3 (al 3 (15 - (dgt (ms4 (fun i => M (b + i))) 3)) (dgt (ms4 (fun i => M (b + i))) 3) (M (b + 8)))) 4 (al 4 (15 - (dgt (ms4 (fun i => M (b + i))) 4)) (dgt (ms4 (fun i => M (b + i))) 4) (M (b + 9)))) 5 (al 5 (15 - (dgt (ms4 (fun i => M (b + i))) 5)) (dgt (ms4 (fun i => M (b + i))) 5) (M (b + 10))), nd_3), rfl, ⟨true, rfl, (by rw [sgOk_q (r := (fun i => M (b + i))) hq hq8]; simp only [sgTop, up1, if_pos h_13, if_pos h_29, if_neg h_37]; exact (decide_eq_true h_39).symm)⟩, by rw [ht]; exact hP, hD⟩, hS.F ht⟩) hS.2.2 d_Mo_signed_171
                                · exact absurd h_38 (by decide)
                              · refine lv_iload hx hb d_Mo_signed_121 (lv_at hl 3 rfl) ?_
                                refine lv_iload hx hb d_Mo_signed_123 (lv_at hl 0 rfl) ?_
                                refine lv_iload hx hb d_Mo_signed_125 (lv_at hl 2 rfl) ?_
                                refine lv_iconst (v := (nI 2)) hx hb d_Mo_signed_127 (by decide) ?_
                                refine lv_idiv hx hb d_Mo_signed_128 (by decide) ?_
                                refine tp (pk_div (by omega) (by decide) (by decide)) ?_
                                refine pr_call (va_runS (As := [.int (ab (ab (sgLeaf (fun i => M (b + i)) q) (M (b + 11)) ((8 + q) / 2)) (M (b + 12)) (((8 + q) / 2) / 2)), .int (M (b + 13)), .int (nI ((((8 + q) / 2) / 2) / 2))]) (rest := []) ⟨hx, hb, hml, hown, hts⟩ (c_Mo_join l dC dI cI (a := ab (ab (sgLeaf (fun i => M (b + i)) q) (M (b + 11)) ((8 + q) / 2)) (M (b + 12)) (((8 + q) / 2) / 2)) (b := M (b + 13)) (k := (((8 + q) / 2) / 2) / 2) ) ⟨callB_of 3 hts (gd kw_435) rfl rfl rfl (hts _ kw_41) (hts _ kw_433) (by decide +kernel) ⟨Nat.le_of_ble_eq_true rfl, Nat.le_of_ble_eq_true rfl⟩, (hts _ kw_434)⟩ ⟨fun a U g mk q => by obtain ⟨q0, qP, qK⟩ := q; exact ⟨q0, qP, qK.call⟩, fun U hU hW => ⟨rfl, by rw [hU]; exact hP.sub [] rfl, hKN.warm hW⟩⟩ rfl rfl hl.1 rfl (lv_room (Nat.le_of_ble_eq_true rfl)) d_Mo_signed_129 ⟨Nat.zero_le _, Nat.zero_le _⟩) ?_
                                refine lv_goto (tgt := 146) hx hb d_Mo_signed_132 (by decide) ?_
                                refine lv_istore (lv' := [(4, .int (ab (ab (ab (sgLeaf (fun i => M (b + i)) q) (M (b + 11)) ((8 + q) / 2)) (M (b + 12)) (((8 + q) / 2) / 2)) (M (b + 13)) ((((8 + q) / 2) / 2) / 2))), (7, .int (M (b + 13))), (6, .int (nI 13)), (5, .int (nI (((8 + q) / 2) / 2))), (3, .int (root sc)), (2, .int (M (b + 4))), (0, .ref hm), (1, .int (nI b))]) hx hb d_Mo_signed_146 hl (by decide) rfl (fun ls hl => ?_)
                                refine lv_iload hx hb d_Mo_signed_148 (lv_at hl 3 rfl) ?_
                                refine lv_iconst (v := (nI 2)) hx hb d_Mo_signed_150 (by decide) ?_
                                refine lv_idiv hx hb d_Mo_signed_151 (by decide) ?_
                                refine tp (pk_div (by omega) (by decide) (by decide)) ?_
                                refine lv_istore (lv' := [(5, .int (nI ((((8 + q) / 2) / 2) / 2))), (4, .int (ab (ab (ab (sgLeaf (fun i => M (b + i)) q) (M (b + 11)) ((8 + q) / 2)) (M (b + 12)) (((8 + q) / 2) / 2)) (M (b + 13)) ((((8 + q) / 2) / 2) / 2))), (7, .int (M (b + 13))), (6, .int (nI 13)), (3, .int (root sc)), (2, .int (M (b + 4))), (0, .ref hm), (1, .int (nI b))]) hx hb d_Mo_signed_152 hl (by decide) rfl (fun ls hl => ?_)
                                refine lv_iinc (k := 3) (v := (nI 14)) (lv' := [(6, .int (nI 14)), (5, .int (nI ((((8 + q) / 2) / 2) / 2))), (4, .int (ab (ab (ab (sgLeaf (fun i => M (b + i)) q) (M (b + 11)) ((8 + q) / 2)) (M (b + 12)) (((8 + q) / 2) / 2)) (M (b + 13)) ((((8 + q) / 2) / 2) / 2))), (7, .int (M (b + 13))), (3, .int (root sc)), (2, .int (M (b + 4))), (0, .ref hm), (1, .int (nI b))]) hx hb d_Mo_signed_154 hl rfl (by decide) (by decide) rfl (fun ls hl => ?_)
                                refine lv_goto (tgt := 96) hx hb d_Mo_signed_157 (by decide) ?_
                                refine lv_iload hx hb d_Mo_signed_96 (lv_at hl 0 rfl) ?_
                                refine lv_bipush (v := (nI 14)) hx hb d_Mo_signed_98 (by decide) ?_
                                refine nb_ge (tgt := 160) hx hb d_Mo_signed_100 (by decide) (by decide) (by decide) (fun h_40 => ?_) (fun h_40 => ?_)
                                · refine lv_iload hx hb d_Mo_signed_160 (lv_at hl 2 rfl) ?_
                                  refine lv_iload_n hx hb d_Mo_signed_162 rfl (lv_at hl 4 rfl) ?_
                                  refine lv_icmp_ne (tgt := 170) hx hb d_Mo_signed_163 (by decide) (fun h_41 => ?_) (fun h_41 => ?_)
                                  · refine lv_iconst (v := (nI 0)) hx hb d_Mo_signed_170 (by decide) ?_
                                    exact W.zret (v := (bI false)) hx hb hr (bI_narrow _) (fun t ht hW => ⟨⟨_, (dg_4, upd (upd (upd (upd (upd (upd ed_3 0 (al 0 (15 - (dgt (ms4 (fun i => M (b + i))) 0)) (dgt (ms4 (fun i => M (b + i))) 0) (M (b + 5)))) 1 (al 1 (15 - (dgt (ms4 (fun i => M (b + i))) 1)) (dgt (ms4 (fun i => M (b + i))) 1) (M (b + 6)))) 2 (al 2 (15 - (dgt (ms4 (fun i => M (b + i))) 2)) (dgt (ms4 (fun i => M (b + i))) 2) (M (b + 7)))) 3 (al 3 (15 - (dgt (ms4 (fun i => M (b + i))) 3)) (dgt (ms4 (fun i => M (b + i))) 3) (M (b + 8)))) 4 (al 4 (15 - (dgt (ms4 (fun i => M (b + i))) 4)) (dgt (ms4 (fun i => M (b + i))) 4) (M (b + 9)))) 5 (al 5 (15 - (dgt (ms4 (fun i => M (b + i))) 5)) (dgt (ms4 (fun i => M (b + i))) 5) (M (b + 10))), nd_3), rfl, ⟨false, rfl, (by rw [sgOk_q (r := (fun i => M (b + i))) hq hq8]; simp only [sgTop, up1, if_pos h_13, if_pos h_29, if_pos h_37]; exact (decide_eq_false h_41).symm)⟩, by rw [ht]; exact hP, hD⟩, hS.F ht⟩) hS.2.2 d_Mo_signed_171
                                  · refine lv_iconst (v := (nI 1)) hx hb d_Mo_signed_166 (by decide) ?_
                                    refine lv_goto (tgt := 171) hx hb d_Mo_signed_167 (by decide) ?_
                                    exact W.zret (v := (bI true)) hx hb hr (bI_narrow _) (fun t ht hW => ⟨⟨_, (dg_4, upd (upd (upd (upd (upd (upd ed_3 0 (al 0 (15 - (dgt (ms4 (fun i => M (b + i))) 0)) (dgt (ms4 (fun i => M (b + i))) 0) (M (b + 5)))) 1 (al 1 (15 - (dgt (ms4 (fun i => M (b + i))) 1)) (dgt (ms4 (fun i => M (b + i))) 1) (M (b + 6)))) 2 (al 2 (15 - (dgt (ms4 (fun i => M (b + i))) 2)) (dgt (ms4 (fun i => M (b + i))) 2) (M (b + 7)))) 3 (al 3 (15 - (dgt (ms4 (fun i => M (b + i))) 3)) (dgt (ms4 (fun i => M (b + i))) 3) (M (b + 8)))) 4 (al 4 (15 - (dgt (ms4 (fun i => M (b + i))) 4)) (dgt (ms4 (fun i => M (b + i))) 4) (M (b + 9)))) 5 (al 5 (15 - (dgt (ms4 (fun i => M (b + i))) 5)) (dgt (ms4 (fun i => M (b + i))) 5) (M (b + 10))), nd_3), rfl, ⟨true, rfl, (by rw [sgOk_q (r := (fun i => M (b + i))) hq hq8]; simp only [sgTop, up1, if_pos h_13, if_pos h_29, if_pos h_37]; exact (decide_eq_true h_41).symm)⟩, by rw [ht]; exact hP, hD⟩, hS.F ht⟩) hS.2.2 d_Mo_signed_171
                                · exact absurd h_40 (by decide)
                  · exact absurd h_11 (by decide)
    · refine lv_iconst (v := (nI 0)) hx hb d_Mo_signed_19 (by decide) ?_
      exact W.zret (v := (bI false)) hx hb hr (bI_narrow _) (fun t ht hW => ⟨⟨_, (dg, ed, nd), rfl, ⟨false, rfl, (by exact (sgOk_hi h_1 h_2).symm)⟩, by rw [ht]; exact hP, hD⟩, hS.F ht⟩) hS.2.2 d_Mo_signed_20
set_option maxHeartbeats 4000000 in
set_option maxRecDepth 100000 in
theorem c_Mo_good (l : Launch) (dC : Nat → ClassId) (dI : Nat → Nat → Nat) (cI : ClassId) (hm : Nat) (k : Nat) (sc : Int32) (hw : Nat) (cn : Nat) (fu : Nat) (lf : Int32) (dd : Bool) (dn : Int32) (rn : Int32) (tr : Bool) (lg : Nat) (he : Nat) (me : Int32) (hd : Nat) (hen : Nat) (hnd : Nat) (M : Nat → Int32) (hk : k < 2) : Met l y_Mo_good w_Mo_good ({ frames := 2, cells := 0, slots := 0, locals := 44 }) (va_Pc [.ref hm, .int (nI k)] (fun U => va_P (dC, dI) classes [(hm, .inr (3, [.int sc, .ref hw, .int (nI cn), .int (nI fu), .int lf, .int (bI dd), .int dn, .int rn, .int (bI tr), .int (nI lg), .ref he, .int me, .ref hd, .ref hen, .ref hnd])), (hw, .inl (cI, 160, .inl M))] U.heap ∧ KN dC dI cI U)) (qr (bI (good M k))) 0 0 (fun _ => False) := by
  refine Met.ofW (cc := b_Mo_good) (maxL := 3) (ret := (some .boolean)) (by decide) rfl ?_
  intro p e s m args below meth c s₁ B hml hv
  obtain ⟨rfl, hP, hKN⟩ := hv
  have hK := hKN.1
  have hx := B.exec
  have hb := B.bytes
  have hr := B.returns
  have hts := fun (w : Cond) (h : w ∈ gt) => atoms_spec (ws := w_Mo_good) B.pre w (List.mem_cons_of_mem _ h)
  have hown : s.vm.findClass R_Mo = some m.cls := findClass_of_methodNamed B.named
  have hlocks := B.notSynchronized
  have hl := lv_entry ([.ref hm, .int (nI k)]) (n := 3) (Nat.le_of_ble_eq_true rfl)
  rw [lg_entry_eq]
  generalize (lg_sl ([.ref hm, .int (nI k)]) ++ List.replicate (3 - (lg_sl ([.ref hm, .int (nI k)])).length) Slot.unset).toArray = ls at hl ⊢
  have hl : lv_has ls 3 [(0, .ref hm), (1, .int (nI k))] := hl
  refine lv_bipush (v := (nI 34)) hx hb d_Mo_good_0 (by decide) ?_
  refine lv_iconst (v := (nI 3)) hx hb d_Mo_good_2 (by decide) ?_
  refine lv_iload_n hx hb d_Mo_good_3 rfl (lv_at hl 1 rfl) ?_
  refine lv_imul hx hb d_Mo_good_4 ?_
  refine tp (pk_mul _ _) ?_
  refine lv_iadd hx hb d_Mo_good_5 ?_
  refine tp (nI_add _ _) ?_
  refine lv_istore_n (lv' := [(2, .int (nI (34 + (3 * k)))), (0, .ref hm), (1, .int (nI k))]) hx hb d_Mo_good_6 rfl hl (by decide) rfl (fun ls hl => ?_)
  refine lv_aload_n hx hb d_Mo_good_7 rfl (lv_at hl 1 rfl) ?_
  refine va_get (D := (dC, dI)) (ci := 3) (v := .ref hw) (C := R_Mo) (T := F_Mo) (N := 15) hx hb hts in_Mo hown hK hP 0 rfl rfl 1 (by decide) (hts _ kw_440) (fun _ h9 => h9) rfl d_Mo_good_8 ?_
  refine lv_iload_n hx hb d_Mo_good_11 rfl (lv_at hl 0 rfl) ?_
  refine lv_iconst (v := (nI 2)) hx hb d_Mo_good_12 (by decide) ?_
  refine lv_iadd hx hb d_Mo_good_13 ?_
  refine tp (nI_add _ _) ?_
  refine ar_ld (k := (34 + (3 * k)) + 2) hx hb hK hP 1 0 rfl rfl (by omega) (by first | decide | omega) d_Mo_good_14 ?_
  refine lv_aload_n hx hb d_Mo_good_15 rfl (lv_at hl 1 rfl) ?_
  refine va_get (D := (dC, dI)) (ci := 3) (v := .ref hw) (C := R_Mo) (T := F_Mo) (N := 15) hx hb hts in_Mo hown hK hP 0 rfl rfl 1 (by decide) (hts _ kw_440) (fun _ h9 => h9) rfl d_Mo_good_16 ?_
  refine lv_iload_n hx hb d_Mo_good_19 rfl (lv_at hl 0 rfl) ?_
  refine ar_ld (k := 34 + (3 * k)) hx hb hK hP 1 0 rfl rfl (by omega) (by first | decide | omega) d_Mo_good_20 ?_
  refine lv_aload_n hx hb d_Mo_good_21 rfl (lv_at hl 1 rfl) ?_
  refine va_get (D := (dC, dI)) (ci := 3) (v := .ref hw) (C := R_Mo) (T := F_Mo) (N := 15) hx hb hts in_Mo hown hK hP 0 rfl rfl 1 (by decide) (hts _ kw_440) (fun _ h9 => h9) rfl d_Mo_good_22 ?_
  refine lv_iload_n hx hb d_Mo_good_25 rfl (lv_at hl 0 rfl) ?_
  refine lv_iconst (v := (nI 1)) hx hb d_Mo_good_26 (by decide) ?_
  refine lv_iadd hx hb d_Mo_good_27 ?_
  refine tp (nI_add _ _) ?_
  refine ar_ld (k := (34 + (3 * k)) + 1) hx hb hK hP 1 0 rfl rfl (by omega) (by first | decide | omega) d_Mo_good_28 ?_
  refine pr_call (va_runS (As := [.int (M (34 + (3 * k))), .int (M ((34 + (3 * k)) + 1))]) (rest := [.int (M ((34 + (3 * k)) + 2))]) ⟨hx, hb, hml, hown, hts⟩ (c_Mo_check l dC dI cI (a := M (34 + (3 * k))) (b := M ((34 + (3 * k)) + 1)) ) ⟨callB_of 2 hts (gd kw_438) rfl rfl rfl (hts _ kw_41) (hts _ kw_436) (by decide +kernel) ⟨Nat.le_of_ble_eq_true rfl, Nat.le_of_ble_eq_true rfl⟩, (hts _ kw_437)⟩ ⟨fun a U g mk q => by obtain ⟨q0, qP, qK⟩ := q; exact ⟨q0, qP, qK.call⟩, fun U hU hW => ⟨rfl, by rw [hU]; exact hP.sub [] rfl, hKN.warm hW⟩⟩ rfl rfl hl.1 rfl (lv_room (Nat.le_of_ble_eq_true rfl)) d_Mo_good_29 ⟨Nat.zero_le _, Nat.zero_le _⟩) ?_
  refine lv_icmp_ne (tgt := 39) hx hb d_Mo_good_32 (by decide) (fun h_1 => ?_) (fun h_1 => ?_)
  · refine lv_iconst (v := (nI 0)) hx hb d_Mo_good_39 (by decide) ?_
    exact W.zret (v := (bI false)) hx hb hr (bI_narrow _) (fun t ht hW => ⟨_, rfl, (by simp [good, h_1]), ht⟩) (fun q h => by cases h) d_Mo_good_40
  · refine lv_iconst (v := (nI 1)) hx hb d_Mo_good_35 (by decide) ?_
    refine lv_goto (tgt := 40) hx hb d_Mo_good_36 (by decide) ?_
    exact W.zret (v := (bI true)) hx hb hr (bI_narrow _) (fun t ht hW => ⟨_, rfl, (by simp [good, h_1]), ht⟩) (fun q h => by cases h) d_Mo_good_40
set_option maxHeartbeats 4000000 in
set_option maxRecDepth 100000 in
theorem c_Mo_current (l : Launch) (dC : Nat → ClassId) (dI : Nat → Nat → Nat) (cI : ClassId) (hm : Nat) (sc : Int32) (hw : Nat) (cn : Nat) (fu : Nat) (lf : Int32) (dd : Bool) (dn : Int32) (rn : Int32) (tr : Bool) (lg : Nat) (he : Nat) (me : Int32) (hd : Nat) (hen : Nat) (hnd : Nat) (M : Nat → Int32)  : Met l y_Mo_current w_Mo_current ({ frames := 3, cells := 0, slots := 0, locals := 66 }) (va_Pc [.ref hm] (fun U => va_P (dC, dI) classes [(hm, .inr (3, [.int sc, .ref hw, .int (nI cn), .int (nI fu), .int lf, .int (bI dd), .int dn, .int rn, .int (bI tr), .int (nI lg), .ref he, .int me, .ref hd, .ref hen, .ref hnd])), (hw, .inl (cI, 160, .inl M))] U.heap ∧ KN dC dI cI U)) (qr (cur M)) 0 0 (fun _ => False) := by
  refine Met.ofW (cc := b_Mo_current) (maxL := 3) (ret := (some .int)) (by decide) rfl ?_
  intro p e s m args below meth c s₁ B hml hv
  obtain ⟨rfl, hP, hKN⟩ := hv
  have hK := hKN.1
  have hx := B.exec
  have hb := B.bytes
  have hr := B.returns
  have hts := fun (w : Cond) (h : w ∈ gt) => atoms_spec (ws := w_Mo_current) B.pre w (List.mem_cons_of_mem _ h)
  have hown : s.vm.findClass R_Mo = some m.cls := findClass_of_methodNamed B.named
  have hlocks := B.notSynchronized
  have hl := lv_entry ([.ref hm]) (n := 3) (Nat.le_of_ble_eq_true rfl)
  rw [lg_entry_eq]
  generalize (lg_sl ([.ref hm]) ++ List.replicate (3 - (lg_sl ([.ref hm])).length) Slot.unset).toArray = ls at hl ⊢
  have hl : lv_has ls 3 [(0, .ref hm)] := hl
  refine lv_aload_n hx hb d_Mo_current_0 rfl (lv_at hl 0 rfl) ?_
  refine lv_iconst (v := (nI 0)) hx hb d_Mo_current_1 (by decide) ?_
  refine pr_call (va_runV (As := [.int (nI 0)]) (rest := []) ⟨hx, hb, hml, hown, hts⟩ (c_Mo_good l dC dI cI (hm := hm) (k := 0) (sc := sc) (hw := hw) (cn := cn) (fu := fu) (lf := lf) (dd := dd) (dn := dn) (rn := rn) (tr := tr) (lg := lg) (he := he) (me := me) (hd := hd) (hen := hen) (hnd := hnd) (M := M) (hk := (by omega))) ⟨callB_of 1 hts (gd kw_537) rfl rfl rfl (hts _ kw_41) (hts _ kw_534) (by decide +kernel) ⟨Nat.le_of_ble_eq_true rfl, Nat.le_of_ble_eq_true rfl⟩, (hts _ kw_536), (hts _ kw_27)⟩ ⟨fun a U g mk q => by obtain ⟨q0, qP, qK⟩ := q; exact ⟨q0, qP, qK.call⟩, va_recv hK hP (ci := 3) rfl (q0 := 0) rfl, fun U hU hW => ⟨rfl, by rw [hU]; exact hP.sub [0, 1] rfl, hKN.warm hW⟩⟩ rfl rfl hl.1 rfl (lv_room (Nat.le_of_ble_eq_true rfl)) d_Mo_current_2 ⟨Nat.zero_le _, Nat.zero_le _⟩) ?_
  refine lv_istore_n (lv' := [(1, .int (bI (good M 0))), (0, .ref hm)]) hx hb d_Mo_current_5 rfl hl (by decide) rfl (fun ls hl => ?_)
  refine lv_aload_n hx hb d_Mo_current_6 rfl (lv_at hl 1 rfl) ?_
  refine lv_iconst (v := (nI 1)) hx hb d_Mo_current_7 (by decide) ?_
  refine pr_call (va_runV (As := [.int (nI 1)]) (rest := []) ⟨hx, hb, hml, hown, hts⟩ (c_Mo_good l dC dI cI (hm := hm) (k := 1) (sc := sc) (hw := hw) (cn := cn) (fu := fu) (lf := lf) (dd := dd) (dn := dn) (rn := rn) (tr := tr) (lg := lg) (he := he) (me := me) (hd := hd) (hen := hen) (hnd := hnd) (M := M) (hk := (by omega))) ⟨callB_of 1 hts (gd kw_537) rfl rfl rfl (hts _ kw_41) (hts _ kw_534) (by decide +kernel) ⟨Nat.le_of_ble_eq_true rfl, Nat.le_of_ble_eq_true rfl⟩, (hts _ kw_536), (hts _ kw_27)⟩ ⟨fun a U g mk q => by obtain ⟨q0, qP, qK⟩ := q; exact ⟨q0, qP, qK.call⟩, va_recv hK hP (ci := 3) rfl (q0 := 0) rfl, fun U hU hW => ⟨rfl, by rw [hU]; exact hP.sub [0, 1] rfl, hKN.warm hW⟩⟩ rfl rfl hl.1 rfl (lv_room (Nat.le_of_ble_eq_true rfl)) d_Mo_current_8 ⟨Nat.zero_le _, Nat.zero_le _⟩) ?_
  refine lv_istore_n (lv' := [(2, .int (bI (good M 1))), (1, .int (bI (good M 0))), (0, .ref hm)]) hx hb d_Mo_current_11 rfl hl (by decide) rfl (fun ls hl => ?_)
  refine lv_iload_n hx hb d_Mo_current_12 rfl (lv_at hl 1 rfl) ?_
  refine bz_eq (tgt := 45) hx hb d_Mo_current_13 (by decide) (fun h_1 => ?_) (fun h_1 => ?_)
  · refine lv_iload_n hx hb d_Mo_current_45 rfl (lv_at hl 1 rfl) ?_
    refine bz_eq (tgt := 53) hx hb d_Mo_current_46 (by decide) (fun h_2 => ?_) (fun h_2 => ?_)
    · refine lv_iload_n hx hb d_Mo_current_53 rfl (lv_at hl 0 rfl) ?_
      refine bz_eq (tgt := 61) hx hb d_Mo_current_54 (by decide) (fun h_3 => ?_) (fun h_3 => ?_)
      · refine lv_iconst (v := (-1)) hx hb d_Mo_current_61 (by decide) ?_
        exact W.iret (v := (-1)) hx hb hr (fun t ht hW => ⟨_, rfl, (by simp [cur, h_1, h_2, h_3]), ht⟩) (fun q h => by cases h) d_Mo_current_62
      · refine lv_iconst (v := (nI 1)) hx hb d_Mo_current_57 (by decide) ?_
        refine lv_goto (tgt := 62) hx hb d_Mo_current_58 (by decide) ?_
        exact W.iret (v := (nI 1)) hx hb hr (fun t ht hW => ⟨_, rfl, (by simp [cur, h_1, h_2, h_3]), ht⟩) (fun q h => by cases h) d_Mo_current_62
    · exact absurd (h_1.symm.trans h_2) (by decide)
  · refine lv_iload_n hx hb d_Mo_current_16 rfl (lv_at hl 0 rfl) ?_
    refine bz_eq (tgt := 45) hx hb d_Mo_current_17 (by decide) (fun h_4 => ?_) (fun h_4 => ?_)
    · refine lv_iload_n hx hb d_Mo_current_45 rfl (lv_at hl 1 rfl) ?_
      refine bz_eq (tgt := 53) hx hb d_Mo_current_46 (by decide) (fun h_5 => ?_) (fun h_5 => ?_)
      · exact absurd (h_1.symm.trans h_5) (by decide)
      · refine lv_iconst (v := (nI 0)) hx hb d_Mo_current_49 (by decide) ?_
        refine lv_goto (tgt := 62) hx hb d_Mo_current_50 (by decide) ?_
        exact W.iret (v := (nI 0)) hx hb hr (fun t ht hW => ⟨_, rfl, (by simp [cur, h_1, h_4, h_5]), ht⟩) (fun q h => by cases h) d_Mo_current_62
    · refine lv_aload_n hx hb d_Mo_current_20 rfl (lv_at hl 2 rfl) ?_
      refine va_get (D := (dC, dI)) (ci := 3) (v := .ref hw) (C := R_Mo) (T := F_Mo) (N := 15) hx hb hts in_Mo hown hK hP 0 rfl rfl 1 (by decide) (hts _ kw_440) (fun _ h9 => h9) rfl d_Mo_current_21 ?_
      refine lv_bipush (v := (nI 37)) hx hb d_Mo_current_24 (by decide) ?_
      refine ar_ld (k := 37) hx hb hK hP 1 0 rfl rfl (by omega) (by first | decide | omega) d_Mo_current_26 ?_
      refine lv_aload_n hx hb d_Mo_current_27 rfl (lv_at hl 2 rfl) ?_
      refine va_get (D := (dC, dI)) (ci := 3) (v := .ref hw) (C := R_Mo) (T := F_Mo) (N := 15) hx hb hts in_Mo hown hK hP 0 rfl rfl 1 (by decide) (hts _ kw_440) (fun _ h9 => h9) rfl d_Mo_current_28 ?_
      refine lv_bipush (v := (nI 34)) hx hb d_Mo_current_31 (by decide) ?_
      refine ar_ld (k := 34) hx hb hK hP 1 0 rfl rfl (by omega) (by first | decide | omega) d_Mo_current_33 ?_
      refine lv_icmp_le (tgt := 41) hx hb d_Mo_current_34 (by decide) (fun h_6 => ?_) (fun h_6 => ?_)
      · refine lv_iconst (v := (nI 0)) hx hb d_Mo_current_41 (by decide) ?_
        refine lv_goto (tgt := 62) hx hb d_Mo_current_42 (by decide) ?_
        exact W.iret (v := (nI 0)) hx hb hr (fun t ht hW => ⟨_, rfl, (by simp [cur, h_1, h_4, h_6]), ht⟩) (fun q h => by cases h) d_Mo_current_62
      · refine lv_iconst (v := (nI 1)) hx hb d_Mo_current_37 (by decide) ?_
        refine lv_goto (tgt := 62) hx hb d_Mo_current_38 (by decide) ?_
        exact W.iret (v := (nI 1)) hx hb hr (fun t ht hW => ⟨_, rfl, (by simp [cur, h_1, h_4, h_6]), ht⟩) (fun q h => by cases h) d_Mo_current_62
set_option maxHeartbeats 4000000 in
set_option maxRecDepth 100000 in
theorem c_Mo_entry (l : Launch) (dC : Nat → ClassId) (dI : Nat → Nat → Nat) (cI : ClassId) (hm : Nat) (sc : Int32) (hw : Nat) (cn : Nat) (fu : Nat) (lf : Int32) (dd : Bool) (dn : Int32) (rn : Int32) (tr : Bool) (lg : Nat) (he : Nat) (me : Int32) (hd : Nat) (hen : Nat) (hnd : Nat) (M : Nat → Int32)  : Met l y_Mo_entry w_Mo_entry ({ frames := 4, cells := 0, slots := 0, locals := 88 }) (va_Pc [.ref hm] (fun U => va_P (dC, dI) classes [(hm, .inr (3, [.int sc, .ref hw, .int (nI cn), .int (nI fu), .int lf, .int (bI dd), .int dn, .int rn, .int (bI tr), .int (nI lg), .ref he, .int me, .ref hd, .ref hen, .ref hnd])), (hw, .inl (cI, 160, .inl M))] U.heap ∧ KN dC dI cI U)) (qr (ety M)) 0 0 (fun _ => False) := by
  refine Met.ofW (cc := b_Mo_entry) (maxL := 2) (ret := (some .int)) (by decide) rfl ?_
  intro p e s m args below meth c s₁ B hml hv
  obtain ⟨rfl, hP, hKN⟩ := hv
  have hK := hKN.1
  have hx := B.exec
  have hb := B.bytes
  have hr := B.returns
  have hts := fun (w : Cond) (h : w ∈ gt) => atoms_spec (ws := w_Mo_entry) B.pre w (List.mem_cons_of_mem _ h)
  have hown : s.vm.findClass R_Mo = some m.cls := findClass_of_methodNamed B.named
  have hlocks := B.notSynchronized
  have hl := lv_entry ([.ref hm]) (n := 2) (Nat.le_of_ble_eq_true rfl)
  rw [lg_entry_eq]
  generalize (lg_sl ([.ref hm]) ++ List.replicate (2 - (lg_sl ([.ref hm])).length) Slot.unset).toArray = ls at hl ⊢
  have hl : lv_has ls 2 [(0, .ref hm)] := hl
  refine lv_aload_n hx hb d_Mo_entry_0 rfl (lv_at hl 0 rfl) ?_
  refine pr_call (va_runV (As := []) (rest := []) ⟨hx, hb, hml, hown, hts⟩ (c_Mo_current l dC dI cI (hm := hm) (sc := sc) (hw := hw) (cn := cn) (fu := fu) (lf := lf) (dd := dd) (dn := dn) (rn := rn) (tr := tr) (lg := lg) (he := he) (me := me) (hd := hd) (hen := hen) (hnd := hnd) (M := M) ) ⟨callB_of 0 hts (gd kw_533) rfl rfl rfl (hts _ kw_41) (hts _ kw_530) (by decide +kernel) ⟨Nat.le_of_ble_eq_true rfl, Nat.le_of_ble_eq_true rfl⟩, (hts _ kw_532), (hts _ kw_26)⟩ ⟨fun a U g mk q => by obtain ⟨q0, qP, qK⟩ := q; exact ⟨q0, qP, qK.call⟩, va_recv hK hP (ci := 3) rfl (q0 := 0) rfl, fun U hU hW => ⟨rfl, by rw [hU]; exact hP.sub [0, 1] rfl, hKN.warm hW⟩⟩ rfl rfl hl.1 rfl (lv_room (Nat.le_of_ble_eq_true rfl)) d_Mo_entry_1 ⟨Nat.zero_le _, Nat.zero_le _⟩) ?_
  rcases cur_cases M with hc | hc | hc
  · refine tp hc ?_
    refine lv_istore_n (lv' := [(1, .int (-1)), (0, .ref hm)]) hx hb d_Mo_entry_4 rfl hl (by decide) rfl (fun ls hl => ?_)
    refine lv_iload_n hx hb d_Mo_entry_5 rfl (lv_at hl 0 rfl) ?_
    refine lv_if_ge (tgt := 13) hx hb d_Mo_entry_6 (by decide) (fun h_1 => ?_) (fun h_1 => ?_)
    · exact absurd h_1 (by decide)
    · refine lv_iconst (v := (nI 0)) hx hb d_Mo_entry_9 (by decide) ?_
      refine lv_goto (tgt := 24) hx hb d_Mo_entry_10 (by decide) ?_
      exact W.iret (v := (nI 0)) hx hb hr (fun t ht hW => ⟨_, rfl, (by rw [ety, hc]; rfl), ht⟩) (fun q h => by cases h) d_Mo_entry_24
  · refine tp hc ?_
    refine lv_istore_n (lv' := [(1, .int (nI 0)), (0, .ref hm)]) hx hb d_Mo_entry_4 rfl hl (by decide) rfl (fun ls hl => ?_)
    refine lv_iload_n hx hb d_Mo_entry_5 rfl (lv_at hl 0 rfl) ?_
    refine nz_ge (tgt := 13) hx hb d_Mo_entry_6 (by decide) (by omega) ?_
    refine lv_aload_n hx hb d_Mo_entry_13 rfl (lv_at hl 1 rfl) ?_
    refine va_get (D := (dC, dI)) (ci := 3) (v := .ref hw) (C := R_Mo) (T := F_Mo) (N := 15) hx hb hts in_Mo hown hK hP 0 rfl rfl 1 (by decide) (hts _ kw_440) (fun _ h9 => h9) rfl d_Mo_entry_14 ?_
    refine lv_bipush (v := (nI 35)) hx hb d_Mo_entry_17 (by decide) ?_
    refine lv_iconst (v := (nI 3)) hx hb d_Mo_entry_19 (by decide) ?_
    refine lv_iload_n hx hb d_Mo_entry_20 rfl (lv_at hl 0 rfl) ?_
    refine lv_imul hx hb d_Mo_entry_21 ?_
    refine tp (y := (nI 0)) (by decide) ?_
    refine lv_iadd hx hb d_Mo_entry_22 ?_
    refine tp (y := (nI 35)) (by decide) ?_
    refine ar_ld (k := 35) hx hb hK hP 1 0 rfl rfl (by omega) (by first | decide | omega) d_Mo_entry_23 ?_
    exact W.iret (v := (M 35)) hx hb hr (fun t ht hW => ⟨_, rfl, (by rw [ety, hc]; rfl), ht⟩) (fun q h => by cases h) d_Mo_entry_24
  · refine tp hc ?_
    refine lv_istore_n (lv' := [(1, .int (nI 1)), (0, .ref hm)]) hx hb d_Mo_entry_4 rfl hl (by decide) rfl (fun ls hl => ?_)
    refine lv_iload_n hx hb d_Mo_entry_5 rfl (lv_at hl 0 rfl) ?_
    refine nz_ge (tgt := 13) hx hb d_Mo_entry_6 (by decide) (by omega) ?_
    refine lv_aload_n hx hb d_Mo_entry_13 rfl (lv_at hl 1 rfl) ?_
    refine va_get (D := (dC, dI)) (ci := 3) (v := .ref hw) (C := R_Mo) (T := F_Mo) (N := 15) hx hb hts in_Mo hown hK hP 0 rfl rfl 1 (by decide) (hts _ kw_440) (fun _ h9 => h9) rfl d_Mo_entry_14 ?_
    refine lv_bipush (v := (nI 35)) hx hb d_Mo_entry_17 (by decide) ?_
    refine lv_iconst (v := (nI 3)) hx hb d_Mo_entry_19 (by decide) ?_
    refine lv_iload_n hx hb d_Mo_entry_20 rfl (lv_at hl 0 rfl) ?_
    refine lv_imul hx hb d_Mo_entry_21 ?_
    refine tp (y := (nI 3)) (by decide) ?_
    refine lv_iadd hx hb d_Mo_entry_22 ?_
    refine tp (y := (nI 38)) (by decide) ?_
    refine ar_ld (k := 38) hx hb hK hP 1 0 rfl rfl (by omega) (by first | decide | omega) d_Mo_entry_23 ?_
    exact W.iret (v := (M 38)) hx hb hr (fun t ht hW => ⟨_, rfl, (by rw [ety, hc]; rfl), ht⟩) (fun q h => by cases h) d_Mo_entry_24
set_option maxHeartbeats 4000000 in
set_option maxRecDepth 100000 in
theorem c_Mo_home (l : Launch) (dC : Nat → ClassId) (dI : Nat → Nat → Nat) (cI : ClassId) (hm : Nat) (sc : Int32) (hw : Nat) (cn : Nat) (fu : Nat) (lf : Int32) (dd : Bool) (dn : Int32) (rn : Int32) (tr : Bool) (lg : Nat) (he : Nat) (me : Int32) (hd : Nat) (hen : Nat) (hnd : Nat) (M : Nat → Int32)  : Met l y_Mo_home w_Mo_home ({ frames := 5, cells := 0, slots := 0, locals := 109 }) (va_Pc [.ref hm] (fun U => va_P (dC, dI) classes [(hm, .inr (3, [.int sc, .ref hw, .int (nI cn), .int (nI fu), .int lf, .int (bI dd), .int dn, .int rn, .int (bI tr), .int (nI lg), .ref he, .int me, .ref hd, .ref hen, .ref hnd])), (hw, .inl (cI, 160, .inl M))] U.heap ∧ KN dC dI cI U)) (qr (nI (hom (ety M)))) 0 0 (fun _ => False) := by
  refine Met.ofW (cc := b_Mo_home) (maxL := 1) (ret := (some .int)) (by decide) rfl ?_
  intro p e s m args below meth c s₁ B hml hv
  obtain ⟨rfl, hP, hKN⟩ := hv
  have hK := hKN.1
  have hx := B.exec
  have hb := B.bytes
  have hr := B.returns
  have hts := fun (w : Cond) (h : w ∈ gt) => atoms_spec (ws := w_Mo_home) B.pre w (List.mem_cons_of_mem _ h)
  have hown : s.vm.findClass R_Mo = some m.cls := findClass_of_methodNamed B.named
  have hlocks := B.notSynchronized
  have hl := lv_entry ([.ref hm]) (n := 1) (Nat.le_of_ble_eq_true rfl)
  rw [lg_entry_eq]
  generalize (lg_sl ([.ref hm]) ++ List.replicate (1 - (lg_sl ([.ref hm])).length) Slot.unset).toArray = ls at hl ⊢
  have hl : lv_has ls 1 [(0, .ref hm)] := hl
  refine lv_aload_n hx hb d_Mo_home_0 rfl (lv_at hl 0 rfl) ?_
  refine pr_call (va_runV (As := []) (rest := []) ⟨hx, hb, hml, hown, hts⟩ (c_Mo_entry l dC dI cI (hm := hm) (sc := sc) (hw := hw) (cn := cn) (fu := fu) (lf := lf) (dd := dd) (dn := dn) (rn := rn) (tr := tr) (lg := lg) (he := he) (me := me) (hd := hd) (hen := hen) (hnd := hnd) (M := M) ) ⟨callB_of 0 hts (gd kw_529) rfl rfl rfl (hts _ kw_41) (hts _ kw_526) (by decide +kernel) ⟨Nat.le_of_ble_eq_true rfl, Nat.le_of_ble_eq_true rfl⟩, (hts _ kw_528), (hts _ kw_25)⟩ ⟨fun a U g mk q => by obtain ⟨q0, qP, qK⟩ := q; exact ⟨q0, qP, qK.call⟩, va_recv hK hP (ci := 3) rfl (q0 := 0) rfl, fun U hU hW => ⟨rfl, by rw [hU]; exact hP.sub [0, 1] rfl, hKN.warm hW⟩⟩ rfl rfl hl.1 rfl (lv_room (Nat.le_of_ble_eq_true rfl)) d_Mo_home_1 ⟨Nat.zero_le _, Nat.zero_le _⟩) ?_
  refine lv_iconst (v := (nI 1)) hx hb d_Mo_home_4 (by decide) ?_
  refine lv_iand hx hb d_Mo_home_5 ?_
  refine tp (pk_and _ 1 (by decide)) ?_
  exact W.iret (v := (nI (hom (ety M)))) hx hb hr (fun t ht hW => ⟨_, rfl, (by first | rfl | (simp only []; done) | (simp only []; rfl) | (simp []; done)), ht⟩) (fun q h => by cases h) d_Mo_home_6
set_option maxHeartbeats 4000000 in
set_option maxRecDepth 100000 in
theorem c_Mo_may (l : Launch) (dC : Nat → ClassId) (dI : Nat → Nat → Nat) (cI : ClassId) (hm : Nat) (sc : Int32) (hw : Nat) (cn : Nat) (fu : Nat) (lf : Int32) (dd : Bool) (dn : Int32) (rn : Int32) (tr : Bool) (lg : Nat) (he : Nat) (me : Int32) (hd : Nat) (hen : Nat) (hnd : Nat)  (sz : Nat) : Met l y_Mo_may w_Mo_may ({ frames := 0, cells := 0, slots := 0, locals := 0 }) (va_Pc [.ref hm] (fun U => U.heap.size = sz ∧ va_P (dC, dI) classes [(hm, .inr (3, [.int sc, .ref hw, .int (nI cn), .int (nI fu), .int lf, .int (bI dd), .int dn, .int rn, .int (bI tr), .int (nI lg), .ref he, .int me, .ref hd, .ref hen, .ref hnd]))] U.heap ∧ KN dC dI cI U ∧ va_D (fun _ => True) [(hm, .inr (3, [.int sc, .ref hw, .int (nI cn), .int (nI fu), .int lf, .int (bI dd), .int dn, .int rn, .int (bI tr), .int (nI lg), .ref he, .int me, .ref hd, .ref hen, .ref hnd]))])) (va_Qi (fun (r : Int32) (u : Bool × Int32 × Int32) => ∃ res : Bool, r = bI res ∧ (mMay dd dn lf = (res, u))) (fun (u : Bool × Int32 × Int32) t => va_P (dC, dI) classes [(hm, .inr (3, [.int sc, .ref hw, .int (nI cn), .int (nI fu), .int u.2.2, .int (bI u.1), .int u.2.1, .int rn, .int (bI tr), .int (nI lg), .ref he, .int me, .ref hd, .ref hen, .ref hnd]))] t.heap ∧ va_D (va_A [(hm, .inr (3, [.int sc, .ref hw, .int (nI cn), .int (nI fu), .int lf, .int (bI dd), .int dn, .int rn, .int (bI tr), .int (nI lg), .ref he, .int me, .ref hd, .ref hen, .ref hnd]))] sz) [(hm, .inr (3, [.int sc, .ref hw, .int (nI cn), .int (nI fu), .int u.2.2, .int (bI u.1), .int u.2.1, .int rn, .int (bI tr), .int (nI lg), .ref he, .int me, .ref hd, .ref hen, .ref hnd]))]) (va_A [(hm, .inr (3, [.int sc, .ref hw, .int (nI cn), .int (nI fu), .int lf, .int (bI dd), .int dn, .int rn, .int (bI tr), .int (nI lg), .ref he, .int me, .ref hd, .ref hen, .ref hnd]))] sz)) 0 0 (va_A [(hm, .inr (3, [.int sc, .ref hw, .int (nI cn), .int (nI fu), .int lf, .int (bI dd), .int dn, .int rn, .int (bI tr), .int (nI lg), .ref he, .int me, .ref hd, .ref hen, .ref hnd]))] sz) := by
  refine Met.ofW (cc := b_Mo_may) (maxL := 1) (ret := (some .boolean)) (by decide) rfl ?_
  intro p e s m args below meth c s₁ B hml hv
  obtain ⟨rfl, hsz, hP, hKN, hD0⟩ := hv
  have hK := hKN.1
  have hx := B.exec
  have hb := B.bytes
  have hr := B.returns
  have hts := fun (w : Cond) (h : w ∈ gt) => atoms_spec (ws := w_Mo_may) B.pre w (List.mem_cons_of_mem _ h)
  have hown : s.vm.findClass R_Mo = some m.cls := findClass_of_methodNamed B.named
  have hlocks := B.notSynchronized
  subst hsz
  have hD := hD0.self (sz := s.heap.size)
  generalize hAe : va_A [(hm, .inr (3, [.int sc, .ref hw, .int (nI cn), .int (nI fu), .int lf, .int (bI dd), .int dn, .int rn, .int (bI tr), .int (nI lg), .ref he, .int me, .ref hd, .ref hen, .ref hnd]))] s.heap.size = A at hD ⊢
  have hA : ∀ q : Nat, s.heap.size ≤ q → A q := fun q h => by rw [← hAe]; exact Or.inr h
  have hS : va_S A s.heap s.heap [] := va_S.rf
  have hP : va_P (dC, dI) classes [(hm, .inr (3, [.int sc, .ref hw, .int (nI cn), .int (nI fu), .int lf, .int (bI dd), .int dn, .int rn, .int (bI tr), .int (nI lg), .ref he, .int me, .ref hd, .ref hen, .ref hnd]))] s.heap := hP
  clear hAe hD0
  have hl := lv_entry ([.ref hm]) (n := 1) (Nat.le_of_ble_eq_true rfl)
  rw [lg_entry_eq]
  generalize (lg_sl ([.ref hm]) ++ List.replicate (1 - (lg_sl ([.ref hm])).length) Slot.unset).toArray = ls at hl ⊢
  have hl : lv_has ls 1 [(0, .ref hm)] := hl
  refine lv_aload_n hx hb d_Mo_may_0 rfl (lv_at hl 0 rfl) ?_
  refine va_get (D := (dC, dI)) (ci := 3) (v := .int (bI dd)) (C := R_Mo) (T := F_Mo) (N := 15) hx hb hts in_Mo hown hK hP 0 rfl rfl 5 (by decide) (hts _ kw_444) (fun _ h9 => h9) rfl d_Mo_may_1 ?_
  refine bz_eq (tgt := 9) hx hb d_Mo_may_4 (by decide) (fun h_1 => ?_) (fun h_1 => ?_)
  · refine lv_aload_n hx hb d_Mo_may_9 rfl (lv_at hl 0 rfl) ?_
    refine va_get (D := (dC, dI)) (ci := 3) (v := .int lf) (C := R_Mo) (T := F_Mo) (N := 15) hx hb hts in_Mo hown hK hP 0 rfl rfl 4 (by decide) (hts _ kw_443) (fun _ h9 => h9) rfl d_Mo_may_10 ?_
    refine lv_if_ne (tgt := 28) hx hb d_Mo_may_13 (by decide) (fun h_2 => ?_) (fun h_2 => ?_)
    · refine lv_aload_n hx hb d_Mo_may_28 rfl (lv_at hl 0 rfl) ?_
      refine lv_aload_n hx hb d_Mo_may_29 rfl (lv_at hl 0 rfl) ?_
      refine va_get (D := (dC, dI)) (ci := 3) (v := .int lf) (C := R_Mo) (T := F_Mo) (N := 15) hx hb hts in_Mo hown hK hP 0 rfl rfl 4 (by decide) (hts _ kw_443) (fun _ h9 => h9) rfl d_Mo_may_30 ?_
      refine lv_if_le (tgt := 45) hx hb d_Mo_may_33 (by decide) (fun h_3 => ?_) (fun h_3 => ?_)
      · refine lv_aload_n hx hb d_Mo_may_45 rfl (lv_at hl 0 rfl) ?_
        refine va_get (D := (dC, dI)) (ci := 3) (v := .int lf) (C := R_Mo) (T := F_Mo) (N := 15) hx hb hts in_Mo hown hK hP 0 rfl rfl 4 (by decide) (hts _ kw_443) (fun _ h9 => h9) rfl d_Mo_may_46 ?_
        refine va_put (D := (dC, dI)) (ci := 3) (v := .int lf) (ty := .int) (C := R_Mo) (T := F_Mo) (N := 15) hx hb hts in_Mo t_Mo t_Mo_ok n_Mo hown hK hP hD hS 0 rfl rfl 4 (by decide) (hts _ kw_443) (fun _ h9 => h9) rfl (by decide +kernel) rfl rfl (Nat.le_of_ble_eq_true rfl) d_Mo_may_49 (fun H locs hP hD hS => ?_)
        have hP : va_P (dC, dI) classes [(hm, .inr (3, [.int sc, .ref hw, .int (nI cn), .int (nI fu), .int lf, .int (bI dd), .int dn, .int rn, .int (bI tr), .int (nI lg), .ref he, .int me, .ref hd, .ref hen, .ref hnd]))] H := hP
        have hD : va_D A [(hm, .inr (3, [.int sc, .ref hw, .int (nI cn), .int (nI fu), .int lf, .int (bI dd), .int dn, .int rn, .int (bI tr), .int (nI lg), .ref he, .int me, .ref hd, .ref hen, .ref hnd]))] := hD
        refine lv_aload_n hx hb d_Mo_may_52 rfl (lv_at hl 0 rfl) ?_
        refine lv_dup hx hb d_Mo_may_53 rfl ?_
        refine va_get (D := (dC, dI)) (ci := 3) (v := .int dn) (C := R_Mo) (T := F_Mo) (N := 15) hx hb hts in_Mo hown hK hP 0 rfl rfl 6 (by decide) (hts _ kw_445) (fun _ h9 => h9) rfl d_Mo_may_54 ?_
        refine lv_iconst (v := (nI 1)) hx hb d_Mo_may_57 (by decide) ?_
        refine lv_iadd hx hb d_Mo_may_58 ?_
        refine va_put (D := (dC, dI)) (ci := 3) (v := .int (dn + (nI 1))) (ty := .int) (C := R_Mo) (T := F_Mo) (N := 15) hx hb hts in_Mo t_Mo t_Mo_ok n_Mo hown hK hP hD hS 0 rfl rfl 6 (by decide) (hts _ kw_445) (fun _ h9 => h9) rfl (by decide +kernel) rfl rfl (Nat.le_of_ble_eq_true rfl) d_Mo_may_59 (fun H locs hP hD hS => ?_)
        have hP : va_P (dC, dI) classes [(hm, .inr (3, [.int sc, .ref hw, .int (nI cn), .int (nI fu), .int lf, .int (bI dd), .int (dn + (nI 1)), .int rn, .int (bI tr), .int (nI lg), .ref he, .int me, .ref hd, .ref hen, .ref hnd]))] H := hP
        have hD : va_D A [(hm, .inr (3, [.int sc, .ref hw, .int (nI cn), .int (nI fu), .int lf, .int (bI dd), .int (dn + (nI 1)), .int rn, .int (bI tr), .int (nI lg), .ref he, .int me, .ref hd, .ref hen, .ref hnd]))] := hD
        refine lv_iconst (v := (nI 1)) hx hb d_Mo_may_62 (by decide) ?_
        exact W.zret (v := (bI true)) hx hb hr (bI_narrow _) (fun t ht hW => ⟨⟨_, (dd, dn + (nI 1), lf), rfl, ⟨true, rfl, (by first | rfl | (simp only [mMay, h_1, if_neg h_2, if_pos h_3]; done) | (simp only [mMay, h_1, if_neg h_2, if_pos h_3]; rfl) | (simp [mMay, h_1, h_2, h_3]; done))⟩, by rw [ht]; exact hP, hD⟩, hS.F ht⟩) hS.2.2 d_Mo_may_63
      · refine lv_aload_n hx hb d_Mo_may_36 rfl (lv_at hl 0 rfl) ?_
        refine va_get (D := (dC, dI)) (ci := 3) (v := .int lf) (C := R_Mo) (T := F_Mo) (N := 15) hx hb hts in_Mo hown hK hP 0 rfl rfl 4 (by decide) (hts _ kw_443) (fun _ h9 => h9) rfl d_Mo_may_37 ?_
        refine lv_iconst (v := (nI 1)) hx hb d_Mo_may_40 (by decide) ?_
        refine lv_isub hx hb d_Mo_may_41 ?_
        refine lv_goto (tgt := 49) hx hb d_Mo_may_42 (by decide) ?_
        refine va_put (D := (dC, dI)) (ci := 3) (v := .int (lf - (nI 1))) (ty := .int) (C := R_Mo) (T := F_Mo) (N := 15) hx hb hts in_Mo t_Mo t_Mo_ok n_Mo hown hK hP hD hS 0 rfl rfl 4 (by decide) (hts _ kw_443) (fun _ h9 => h9) rfl (by decide +kernel) rfl rfl (Nat.le_of_ble_eq_true rfl) d_Mo_may_49 (fun H locs hP hD hS => ?_)
        have hP : va_P (dC, dI) classes [(hm, .inr (3, [.int sc, .ref hw, .int (nI cn), .int (nI fu), .int (lf - (nI 1)), .int (bI dd), .int dn, .int rn, .int (bI tr), .int (nI lg), .ref he, .int me, .ref hd, .ref hen, .ref hnd]))] H := hP
        have hD : va_D A [(hm, .inr (3, [.int sc, .ref hw, .int (nI cn), .int (nI fu), .int (lf - (nI 1)), .int (bI dd), .int dn, .int rn, .int (bI tr), .int (nI lg), .ref he, .int me, .ref hd, .ref hen, .ref hnd]))] := hD
        refine lv_aload_n hx hb d_Mo_may_52 rfl (lv_at hl 0 rfl) ?_
        refine lv_dup hx hb d_Mo_may_53 rfl ?_
        refine va_get (D := (dC, dI)) (ci := 3) (v := .int dn) (C := R_Mo) (T := F_Mo) (N := 15) hx hb hts in_Mo hown hK hP 0 rfl rfl 6 (by decide) (hts _ kw_445) (fun _ h9 => h9) rfl d_Mo_may_54 ?_
        refine lv_iconst (v := (nI 1)) hx hb d_Mo_may_57 (by decide) ?_
        refine lv_iadd hx hb d_Mo_may_58 ?_
        refine va_put (D := (dC, dI)) (ci := 3) (v := .int (dn + (nI 1))) (ty := .int) (C := R_Mo) (T := F_Mo) (N := 15) hx hb hts in_Mo t_Mo t_Mo_ok n_Mo hown hK hP hD hS 0 rfl rfl 6 (by decide) (hts _ kw_445) (fun _ h9 => h9) rfl (by decide +kernel) rfl rfl (Nat.le_of_ble_eq_true rfl) d_Mo_may_59 (fun H locs hP hD hS => ?_)
        have hP : va_P (dC, dI) classes [(hm, .inr (3, [.int sc, .ref hw, .int (nI cn), .int (nI fu), .int (lf - (nI 1)), .int (bI dd), .int (dn + (nI 1)), .int rn, .int (bI tr), .int (nI lg), .ref he, .int me, .ref hd, .ref hen, .ref hnd]))] H := hP
        have hD : va_D A [(hm, .inr (3, [.int sc, .ref hw, .int (nI cn), .int (nI fu), .int (lf - (nI 1)), .int (bI dd), .int (dn + (nI 1)), .int rn, .int (bI tr), .int (nI lg), .ref he, .int me, .ref hd, .ref hen, .ref hnd]))] := hD
        refine lv_iconst (v := (nI 1)) hx hb d_Mo_may_62 (by decide) ?_
        exact W.zret (v := (bI true)) hx hb hr (bI_narrow _) (fun t ht hW => ⟨⟨_, (dd, dn + (nI 1), lf - (nI 1)), rfl, ⟨true, rfl, (by first | rfl | (simp only [mMay, h_1, if_neg h_2, if_neg h_3]; done) | (simp only [mMay, h_1, if_neg h_2, if_neg h_3]; rfl) | (simp [mMay, h_1, h_2, h_3]; done))⟩, by rw [ht]; exact hP, hD⟩, hS.F ht⟩) hS.2.2 d_Mo_may_63
    · refine lv_aload_n hx hb d_Mo_may_16 rfl (lv_at hl 0 rfl) ?_
      refine lv_iconst (v := (nI 1)) hx hb d_Mo_may_17 (by decide) ?_
      refine va_put (D := (dC, dI)) (ci := 3) (v := .int (bI true)) (ty := .boolean) (C := R_Mo) (T := F_Mo) (N := 15) hx hb hts in_Mo t_Mo t_Mo_ok n_Mo hown hK hP hD hS 0 rfl rfl 5 (by decide) (hts _ kw_444) (fun _ h9 => h9) rfl (by decide +kernel) (bI_narrow _) (bI_fits _) (Nat.le_of_ble_eq_true rfl) d_Mo_may_18 (fun H locs hP hD hS => ?_)
      have hP : va_P (dC, dI) classes [(hm, .inr (3, [.int sc, .ref hw, .int (nI cn), .int (nI fu), .int lf, .int (bI true), .int dn, .int rn, .int (bI tr), .int (nI lg), .ref he, .int me, .ref hd, .ref hen, .ref hnd]))] H := hP
      have hD : va_D A [(hm, .inr (3, [.int sc, .ref hw, .int (nI cn), .int (nI fu), .int lf, .int (bI true), .int dn, .int rn, .int (bI tr), .int (nI lg), .ref he, .int me, .ref hd, .ref hen, .ref hnd]))] := hD
      refine lv_aload_n hx hb d_Mo_may_21 rfl (lv_at hl 0 rfl) ?_
      refine lv_iconst (v := (-1)) hx hb d_Mo_may_22 (by decide) ?_
      refine va_put (D := (dC, dI)) (ci := 3) (v := .int (-1)) (ty := .int) (C := R_Mo) (T := F_Mo) (N := 15) hx hb hts in_Mo t_Mo t_Mo_ok n_Mo hown hK hP hD hS 0 rfl rfl 4 (by decide) (hts _ kw_443) (fun _ h9 => h9) rfl (by decide +kernel) rfl rfl (Nat.le_of_ble_eq_true rfl) d_Mo_may_23 (fun H locs hP hD hS => ?_)
      have hP : va_P (dC, dI) classes [(hm, .inr (3, [.int sc, .ref hw, .int (nI cn), .int (nI fu), .int (-1), .int (bI true), .int dn, .int rn, .int (bI tr), .int (nI lg), .ref he, .int me, .ref hd, .ref hen, .ref hnd]))] H := hP
      have hD : va_D A [(hm, .inr (3, [.int sc, .ref hw, .int (nI cn), .int (nI fu), .int (-1), .int (bI true), .int dn, .int rn, .int (bI tr), .int (nI lg), .ref he, .int me, .ref hd, .ref hen, .ref hnd]))] := hD
      refine lv_iconst (v := (nI 0)) hx hb d_Mo_may_26 (by decide) ?_
      exact W.zret (v := (bI false)) hx hb hr (bI_narrow _) (fun t ht hW => ⟨⟨_, (true, dn, (-1)), rfl, ⟨false, rfl, (by first | rfl | (simp only [mMay, h_1, if_pos h_2]; done) | (simp only [mMay, h_1, if_pos h_2]; rfl) | (simp [mMay, h_1, h_2]; done))⟩, by rw [ht]; exact hP, hD⟩, hS.F ht⟩) hS.2.2 d_Mo_may_27
  · refine lv_iconst (v := (nI 0)) hx hb d_Mo_may_7 (by decide) ?_
    exact W.zret (v := (bI false)) hx hb hr (bI_narrow _) (fun t ht hW => ⟨⟨_, (dd, dn, lf), rfl, ⟨false, rfl, (by first | rfl | (simp only [mMay, h_1]; done) | (simp only [mMay, h_1]; rfl) | (simp [mMay, h_1]; done))⟩, by rw [ht]; exact hP, hD⟩, hS.F ht⟩) hS.2.2 d_Mo_may_8
set_option maxHeartbeats 4000000 in
set_option maxRecDepth 100000 in
theorem c_Mo_put (l : Launch) (dC : Nat → ClassId) (dI : Nat → Nat → Nat) (cI : ClassId) (hm : Nat) (k : Nat) (x : Int32) (sc : Int32) (hw : Nat) (cn : Nat) (fu : Nat) (lf : Int32) (dd : Bool) (dn : Int32) (rn : Int32) (tr : Bool) (lg : Nat) (he : Nat) (me : Int32) (hd : Nat) (hen : Nat) (hnd : Nat) (M : Nat → Int32) (hk : k < 160) (sz : Nat) : Met l y_Mo_put w_Mo_put ({ frames := 1, cells := 0, slots := 0, locals := 20 }) (va_Pc [.ref hm, .int (nI k), .int x] (fun U => U.heap.size = sz ∧ va_P (dC, dI) classes [(hm, .inr (3, [.int sc, .ref hw, .int (nI cn), .int (nI fu), .int lf, .int (bI dd), .int dn, .int rn, .int (bI tr), .int (nI lg), .ref he, .int me, .ref hd, .ref hen, .ref hnd])), (hw, .inl (cI, 160, .inl M))] U.heap ∧ KN dC dI cI U ∧ va_D (fun _ => True) [(hm, .inr (3, [.int sc, .ref hw, .int (nI cn), .int (nI fu), .int lf, .int (bI dd), .int dn, .int rn, .int (bI tr), .int (nI lg), .ref he, .int me, .ref hd, .ref hen, .ref hnd])), (hw, .inl (cI, 160, .inl M))])) (va_Qv (fun u : (Nat → Int32) × Bool × Int32 × Int32 => mPut M dd dn lf k x = u) (fun (u : (Nat → Int32) × Bool × Int32 × Int32) t => va_P (dC, dI) classes [(hm, .inr (3, [.int sc, .ref hw, .int (nI cn), .int (nI fu), .int u.2.2.2, .int (bI u.2.1), .int u.2.2.1, .int rn, .int (bI tr), .int (nI lg), .ref he, .int me, .ref hd, .ref hen, .ref hnd])), (hw, .inl (cI, 160, .inl u.1))] t.heap ∧ va_D (va_A [(hm, .inr (3, [.int sc, .ref hw, .int (nI cn), .int (nI fu), .int lf, .int (bI dd), .int dn, .int rn, .int (bI tr), .int (nI lg), .ref he, .int me, .ref hd, .ref hen, .ref hnd])), (hw, .inl (cI, 160, .inl M))] sz) [(hm, .inr (3, [.int sc, .ref hw, .int (nI cn), .int (nI fu), .int u.2.2.2, .int (bI u.2.1), .int u.2.2.1, .int rn, .int (bI tr), .int (nI lg), .ref he, .int me, .ref hd, .ref hen, .ref hnd])), (hw, .inl (cI, 160, .inl u.1))]) (va_A [(hm, .inr (3, [.int sc, .ref hw, .int (nI cn), .int (nI fu), .int lf, .int (bI dd), .int dn, .int rn, .int (bI tr), .int (nI lg), .ref he, .int me, .ref hd, .ref hen, .ref hnd])), (hw, .inl (cI, 160, .inl M))] sz)) 0 0 (va_A [(hm, .inr (3, [.int sc, .ref hw, .int (nI cn), .int (nI fu), .int lf, .int (bI dd), .int dn, .int rn, .int (bI tr), .int (nI lg), .ref he, .int me, .ref hd, .ref hen, .ref hnd])), (hw, .inl (cI, 160, .inl M))] sz) := by
  refine Met.ofW (cc := b_Mo_put) (maxL := 3) (ret := none) (by decide) rfl ?_
  intro p e s m args below meth c s₁ B hml hv
  obtain ⟨rfl, hsz, hP, hKN, hD0⟩ := hv
  have hK := hKN.1
  have hx := B.exec
  have hb := B.bytes
  have hr := B.returns
  have hts := fun (w : Cond) (h : w ∈ gt) => atoms_spec (ws := w_Mo_put) B.pre w (List.mem_cons_of_mem _ h)
  have hown : s.vm.findClass R_Mo = some m.cls := findClass_of_methodNamed B.named
  have hlocks := B.notSynchronized
  subst hsz
  have hD := hD0.self (sz := s.heap.size)
  generalize hAe : va_A [(hm, .inr (3, [.int sc, .ref hw, .int (nI cn), .int (nI fu), .int lf, .int (bI dd), .int dn, .int rn, .int (bI tr), .int (nI lg), .ref he, .int me, .ref hd, .ref hen, .ref hnd])), (hw, .inl (cI, 160, .inl M))] s.heap.size = A at hD ⊢
  have hA : ∀ q : Nat, s.heap.size ≤ q → A q := fun q h => by rw [← hAe]; exact Or.inr h
  have hS : va_S A s.heap s.heap [] := va_S.rf
  have hP : va_P (dC, dI) classes [(hm, .inr (3, [.int sc, .ref hw, .int (nI cn), .int (nI fu), .int lf, .int (bI dd), .int dn, .int rn, .int (bI tr), .int (nI lg), .ref he, .int me, .ref hd, .ref hen, .ref hnd])), (hw, .inl (cI, 160, .inl M))] s.heap := hP
  clear hAe hD0
  have hl := lv_entry ([.ref hm, .int (nI k), .int x]) (n := 3) (Nat.le_of_ble_eq_true rfl)
  rw [lg_entry_eq]
  generalize (lg_sl ([.ref hm, .int (nI k), .int x]) ++ List.replicate (3 - (lg_sl ([.ref hm, .int (nI k), .int x])).length) Slot.unset).toArray = ls at hl ⊢
  have hl : lv_has ls 3 [(0, .ref hm), (1, .int (nI k)), (2, .int x)] := hl
  refine lv_aload_n hx hb d_Mo_put_0 rfl (lv_at hl 0 rfl) ?_
  have hPc := hP.sub (ws' := [(hm, .inr (3, [.int sc, .ref hw, .int (nI cn), .int (nI fu), .int lf, .int (bI dd), .int dn, .int rn, .int (bI tr), .int (nI lg), .ref he, .int me, .ref hd, .ref hen, .ref hnd]))]) [0] rfl
  have hDc := hD.sub (ws' := [(hm, .inr (3, [.int sc, .ref hw, .int (nI cn), .int (nI fu), .int lf, .int (bI dd), .int dn, .int rn, .int (bI tr), .int (nI lg), .ref he, .int me, .ref hd, .ref hen, .ref hnd]))]) [0] (by decide) rfl
  have hFc := va_free (wc := [(hm, .inr (3, [.int sc, .ref hw, .int (nI cn), .int (nI fu), .int lf, .int (bI dd), .int dn, .int rn, .int (bI tr), .int (nI lg), .ref he, .int me, .ref hd, .ref hen, .ref hnd]))]) hD hS hA [0] rfl
  refine va_calli (va_runV (As := []) (rest := []) ⟨hx, hb, hml, hown, hts⟩ (c_Mo_may l dC dI cI (hm := hm) (sc := sc) (hw := hw) (cn := cn) (fu := fu) (lf := lf) (dd := dd) (dn := dn) (rn := rn) (tr := tr) (lg := lg) (he := he) (me := me) (hd := hd) (hen := hen) (hnd := hnd)  (sz := s.heap.size)) ⟨callB_of 0 hts (gd kw_559) rfl rfl rfl (hts _ kw_41) (hts _ kw_556) (by decide +kernel) ⟨Nat.le_of_ble_eq_true rfl, Nat.le_of_ble_eq_true rfl⟩, (hts _ kw_558), (hts _ kw_30)⟩ ⟨fun a U g mk q => by obtain ⟨q0, q1, qP, qK, qD⟩ := q; exact ⟨q0, q1, qP, qK.call, qD⟩, va_recv hK hP (ci := 3) rfl (q0 := 0) rfl, fun U hU hW => ⟨rfl, by rw [hU], by rw [hU]; exact hPc, hKN.warm hW, hDc.weaken (fun _ _ _ _ => trivial)⟩⟩ rfl rfl hl.1 rfl (lv_room (Nat.le_of_ble_eq_true rfl)) d_Mo_put_1 ⟨Nat.zero_le _, Nat.zero_le _⟩) hS (fun q _ h => hFc q h) hFc (fun r u t H1 locs zt zvm zw zB zz zk hS => ?_)
  obtain ⟨dd_1, dn_1, lf_1⟩ := u
  obtain ⟨b_1, rfl, hu_1⟩ := zw
  obtain ⟨hP1, hD1⟩ := zB
  rw [zt] at hP1
  have hP1 : va_P (dC, dI) classes [(hm, .inr (3, [.int sc, .ref hw, .int (nI cn), .int (nI fu), .int lf_1, .int (bI dd_1), .int dn_1, .int rn, .int (bI tr), .int (nI lg), .ref he, .int me, .ref hd, .ref hen, .ref hnd]))] H1 := hP1
  obtain ⟨hP, hD⟩ := va_join (wc := [(hm, .inr (3, [.int sc, .ref hw, .int (nI cn), .int (nI fu), .int lf, .int (bI dd), .int dn, .int rn, .int (bI tr), .int (nI lg), .ref he, .int me, .ref hd, .ref hen, .ref hnd]))]) (wr := [(hw, .inl (cI, 160, .inl M))]) (w1 := [(hm, .inr (3, [.int sc, .ref hw, .int (nI cn), .int (nI fu), .int lf_1, .int (bI dd_1), .int dn_1, .int rn, .int (bI tr), .int (nI lg), .ref he, .int me, .ref hd, .ref hen, .ref hnd]))]) hP hD [0] [1] rfl rfl (by decide) (by decide) zk hFc hP1 hD1
  generalize H1 = H at hP hS ⊢
  have hP : va_P (dC, dI) classes [(hm, .inr (3, [.int sc, .ref hw, .int (nI cn), .int (nI fu), .int lf_1, .int (bI dd_1), .int dn_1, .int rn, .int (bI tr), .int (nI lg), .ref he, .int me, .ref hd, .ref hen, .ref hnd])), (hw, .inl (cI, 160, .inl M))] H := hP.sub [1, 0] rfl
  have hD : va_D A [(hm, .inr (3, [.int sc, .ref hw, .int (nI cn), .int (nI fu), .int lf_1, .int (bI dd_1), .int dn_1, .int rn, .int (bI tr), .int (nI lg), .ref he, .int me, .ref hd, .ref hen, .ref hnd])), (hw, .inl (cI, 160, .inl M))] := hD.sub [1, 0] (by decide) rfl
  clear hPc hDc hFc hP1 hD1 zk zz zvm zt
  refine bz_eq (tgt := 14) hx hb d_Mo_put_4 (by decide) (fun h_2 => ?_) (fun h_2 => ?_)
  · subst h_2
    exact W.vret hx hb hr (fun t ht hW => ⟨⟨(M, dd_1, dn_1, lf_1), rfl, (by first | rfl | (simp only [mPut, hu_1]; done) | (simp only [mPut, hu_1]; rfl) | (simp [mPut, hu_1]; done)), by rw [ht]; exact hP, hD⟩, hS.F ht⟩) hS.2.2 d_Mo_put_14
  · subst h_2
    refine lv_aload_n hx hb d_Mo_put_7 rfl (lv_at hl 0 rfl) ?_
    refine va_get (D := (dC, dI)) (ci := 3) (v := .ref hw) (C := R_Mo) (T := F_Mo) (N := 15) hx hb hts in_Mo hown hK hP 0 rfl rfl 1 (by decide) (hts _ kw_440) (fun _ h9 => h9) rfl d_Mo_put_8 ?_
    refine lv_iload_n hx hb d_Mo_put_11 rfl (lv_at hl 1 rfl) ?_
    refine lv_iload_n hx hb d_Mo_put_12 rfl (lv_at hl 2 rfl) ?_
    refine ar_st (k := k) hx hb hK hP hD hS 1 0 rfl rfl (by omega) (by first | decide | omega) d_Mo_put_13 (fun H locs hP hD hS => ?_)
    have hP : va_P (dC, dI) classes [(hm, .inr (3, [.int sc, .ref hw, .int (nI cn), .int (nI fu), .int lf_1, .int (bI dd_1), .int dn_1, .int rn, .int (bI tr), .int (nI lg), .ref he, .int me, .ref hd, .ref hen, .ref hnd])), (hw, .inl (cI, 160, .inl (upd M k x)))] H := hP
    have hD : va_D A [(hm, .inr (3, [.int sc, .ref hw, .int (nI cn), .int (nI fu), .int lf_1, .int (bI dd_1), .int dn_1, .int rn, .int (bI tr), .int (nI lg), .ref he, .int me, .ref hd, .ref hen, .ref hnd])), (hw, .inl (cI, 160, .inl (upd M k x)))] := hD
    exact W.vret hx hb hr (fun t ht hW => ⟨⟨(upd M k x, dd_1, dn_1, lf_1), rfl, (by first | rfl | (simp only [mPut, hu_1]; done) | (simp only [mPut, hu_1]; rfl) | (simp [mPut, hu_1]; done)), by rw [ht]; exact hP, hD⟩, hS.F ht⟩) hS.2.2 d_Mo_put_14
set_option maxHeartbeats 4000000 in
set_option maxRecDepth 100000 in
theorem c_Mo_state (l : Launch) (dC : Nat → ClassId) (dI : Nat → Nat → Nat) (cI : ClassId) (hm : Nat) (v : Int32) (sc : Int32) (hw : Nat) (cn : Nat) (fu : Nat) (lf : Int32) (dd : Bool) (dn : Int32) (rn : Int32) (tr : Bool) (lg : Nat) (he : Nat) (me : Int32) (hd : Nat) (hen : Nat) (hnd : Nat) (M : Nat → Int32)  : Met l y_Mo_state w_Mo_state ({ frames := 5, cells := 0, slots := 0, locals := 109 }) (va_Pc [.ref hm, .int v] (fun U => va_P (dC, dI) classes [(hm, .inr (3, [.int sc, .ref hw, .int (nI cn), .int (nI fu), .int lf, .int (bI dd), .int dn, .int rn, .int (bI tr), .int (nI lg), .ref he, .int me, .ref hd, .ref hen, .ref hnd])), (hw, .inl (cI, 160, .inl M))] U.heap ∧ KN dC dI cI U)) (qr (sta (ety M) v)) 0 0 (fun _ => False) := by
  refine Met.ofW (cc := b_Mo_state) (maxL := 2) (ret := (some .int)) (by decide) rfl ?_
  intro p e s m args below meth c s₁ B hml hv
  obtain ⟨rfl, hP, hKN⟩ := hv
  have hK := hKN.1
  have hx := B.exec
  have hb := B.bytes
  have hr := B.returns
  have hts := fun (w : Cond) (h : w ∈ gt) => atoms_spec (ws := w_Mo_state) B.pre w (List.mem_cons_of_mem _ h)
  have hown : s.vm.findClass R_Mo = some m.cls := findClass_of_methodNamed B.named
  have hlocks := B.notSynchronized
  have hl := lv_entry ([.ref hm, .int v]) (n := 2) (Nat.le_of_ble_eq_true rfl)
  rw [lg_entry_eq]
  generalize (lg_sl ([.ref hm, .int v]) ++ List.replicate (2 - (lg_sl ([.ref hm, .int v])).length) Slot.unset).toArray = ls at hl ⊢
  have hl : lv_has ls 2 [(0, .ref hm), (1, .int v)] := hl
  rcases sta_cases v with rfl | rfl | ⟨h0, h1⟩
  · refine lv_iload_n hx hb d_Mo_state_0 rfl (lv_at hl 1 rfl) ?_
    refine nz_eq (tgt := 9) hx hb d_Mo_state_1 (by decide) (by decide) (fun h_1 => ?_) (fun h_1 => ?_)
    · refine lv_aload_n hx hb d_Mo_state_9 rfl (lv_at hl 0 rfl) ?_
      refine pr_call (va_runV (As := []) (rest := []) ⟨hx, hb, hml, hown, hts⟩ (c_Mo_entry l dC dI cI (hm := hm) (sc := sc) (hw := hw) (cn := cn) (fu := fu) (lf := lf) (dd := dd) (dn := dn) (rn := rn) (tr := tr) (lg := lg) (he := he) (me := me) (hd := hd) (hen := hen) (hnd := hnd) (M := M) ) ⟨callB_of 0 hts (gd kw_529) rfl rfl rfl (hts _ kw_41) (hts _ kw_526) (by decide +kernel) ⟨Nat.le_of_ble_eq_true rfl, Nat.le_of_ble_eq_true rfl⟩, (hts _ kw_528), (hts _ kw_25)⟩ ⟨fun a U g mk q => by obtain ⟨q0, qP, qK⟩ := q; exact ⟨q0, qP, qK.call⟩, va_recv hK hP (ci := 3) rfl (q0 := 0) rfl, fun U hU hW => ⟨rfl, by rw [hU]; exact hP.sub [0, 1] rfl, hKN.warm hW⟩⟩ rfl rfl hl.1 rfl (lv_room (Nat.le_of_ble_eq_true rfl)) d_Mo_state_10 ⟨Nat.zero_le _, Nat.zero_le _⟩) ?_
      refine lv_iconst (v := (nI 1)) hx hb d_Mo_state_13 (by decide) ?_
      refine lv_iconst (v := (nI 2)) hx hb d_Mo_state_14 (by decide) ?_
      refine lv_iload_n hx hb d_Mo_state_15 rfl (lv_at hl 1 rfl) ?_
      refine lv_imul hx hb d_Mo_state_16 ?_
      refine tp (y := (nI 0)) (by decide) ?_
      refine lv_iadd hx hb d_Mo_state_17 ?_
      refine tp (y := (nI 1)) (by decide) ?_
      refine lv_ishr hx hb d_Mo_state_18 ?_
      refine lv_iconst (v := (nI 3)) hx hb d_Mo_state_19 (by decide) ?_
      refine lv_iand hx hb d_Mo_state_20 ?_
      refine tp (sshr_0 _) ?_
      refine lv_goto (tgt := 25) hx hb d_Mo_state_21 (by decide) ?_
      exact W.iret (v := (nI (stt (ety M) 0))) hx hb hr (fun t ht hW => ⟨_, rfl, (by rfl), ht⟩) (fun q h => by cases h) d_Mo_state_25
    · exact absurd h_1 (by decide)
  · refine lv_iload_n hx hb d_Mo_state_0 rfl (lv_at hl 1 rfl) ?_
    refine nz_eq (tgt := 9) hx hb d_Mo_state_1 (by decide) (by decide) (fun h_2 => ?_) (fun h_2 => ?_)
    · exact absurd h_2 (by decide)
    · refine lv_iload_n hx hb d_Mo_state_4 rfl (lv_at hl 1 rfl) ?_
      refine lv_iconst (v := (nI 1)) hx hb d_Mo_state_5 (by decide) ?_
      refine nb_ne (tgt := 24) hx hb d_Mo_state_6 (by decide) (by decide) (by decide) (fun h_3 => ?_) (fun h_3 => ?_)
      · exact absurd h_3 (by decide)
      · refine lv_aload_n hx hb d_Mo_state_9 rfl (lv_at hl 0 rfl) ?_
        refine pr_call (va_runV (As := []) (rest := []) ⟨hx, hb, hml, hown, hts⟩ (c_Mo_entry l dC dI cI (hm := hm) (sc := sc) (hw := hw) (cn := cn) (fu := fu) (lf := lf) (dd := dd) (dn := dn) (rn := rn) (tr := tr) (lg := lg) (he := he) (me := me) (hd := hd) (hen := hen) (hnd := hnd) (M := M) ) ⟨callB_of 0 hts (gd kw_529) rfl rfl rfl (hts _ kw_41) (hts _ kw_526) (by decide +kernel) ⟨Nat.le_of_ble_eq_true rfl, Nat.le_of_ble_eq_true rfl⟩, (hts _ kw_528), (hts _ kw_25)⟩ ⟨fun a U g mk q => by obtain ⟨q0, qP, qK⟩ := q; exact ⟨q0, qP, qK.call⟩, va_recv hK hP (ci := 3) rfl (q0 := 0) rfl, fun U hU hW => ⟨rfl, by rw [hU]; exact hP.sub [0, 1] rfl, hKN.warm hW⟩⟩ rfl rfl hl.1 rfl (lv_room (Nat.le_of_ble_eq_true rfl)) d_Mo_state_10 ⟨Nat.zero_le _, Nat.zero_le _⟩) ?_
        refine lv_iconst (v := (nI 1)) hx hb d_Mo_state_13 (by decide) ?_
        refine lv_iconst (v := (nI 2)) hx hb d_Mo_state_14 (by decide) ?_
        refine lv_iload_n hx hb d_Mo_state_15 rfl (lv_at hl 1 rfl) ?_
        refine lv_imul hx hb d_Mo_state_16 ?_
        refine tp (y := (nI 2)) (by decide) ?_
        refine lv_iadd hx hb d_Mo_state_17 ?_
        refine tp (y := (nI 3)) (by decide) ?_
        refine lv_ishr hx hb d_Mo_state_18 ?_
        refine lv_iconst (v := (nI 3)) hx hb d_Mo_state_19 (by decide) ?_
        refine lv_iand hx hb d_Mo_state_20 ?_
        refine tp (sshr_1 _) ?_
        refine lv_goto (tgt := 25) hx hb d_Mo_state_21 (by decide) ?_
        exact W.iret (v := (nI (stt (ety M) 1))) hx hb hr (fun t ht hW => ⟨_, rfl, (by rfl), ht⟩) (fun q h => by cases h) d_Mo_state_25
  · refine lv_iload_n hx hb d_Mo_state_0 rfl (lv_at hl 1 rfl) ?_
    refine lv_if_eq (tgt := 9) hx hb d_Mo_state_1 (by decide) (fun h_4 => ?_) (fun h_4 => ?_)
    · exact absurd h_4 h0
    · refine lv_iload_n hx hb d_Mo_state_4 rfl (lv_at hl 1 rfl) ?_
      refine lv_iconst (v := (nI 1)) hx hb d_Mo_state_5 (by decide) ?_
      refine lv_icmp_ne (tgt := 24) hx hb d_Mo_state_6 (by decide) (fun h_5 => ?_) (fun h_5 => ?_)
      · refine lv_iconst (v := (-1)) hx hb d_Mo_state_24 (by decide) ?_
        exact W.iret (v := (-1)) hx hb hr (fun t ht hW => ⟨_, rfl, (by rw [sta, if_neg h0, if_neg h1]), ht⟩) (fun q h => by cases h) d_Mo_state_25
      · exact absurd h_5 h1
set_option maxHeartbeats 4000000 in
set_option maxRecDepth 100000 in
theorem c_Mo_noWord (l : Launch) (dC : Nat → ClassId) (dI : Nat → Nat → Nat) (cI : ClassId) (hm : Nat) (v : Int32) (w : Int32) (sc : Int32) (hw : Nat) (cn : Nat) (fu : Nat) (lf : Int32) (dd : Bool) (dn : Int32) (rn : Int32) (tr : Bool) (lg : Nat) (he : Nat) (me : Int32) (hd : Nat) (hen : Nat) (hnd : Nat)  : Met l y_Mo_noWord w_Mo_noWord ({ frames := 0, cells := 0, slots := 0, locals := 0 }) (va_Pc [.ref hm, .int v, .int w] (fun U => va_P (dC, dI) classes [(hm, .inr (3, [.int sc, .ref hw, .int (nI cn), .int (nI fu), .int lf, .int (bI dd), .int dn, .int rn, .int (bI tr), .int (nI lg), .ref he, .int me, .ref hd, .ref hen, .ref hnd]))] U.heap ∧ KN dC dI cI U)) (qr (bI (noW v w cn))) 0 0 (fun _ => False) := by
  refine Met.ofW (cc := b_Mo_noWord) (maxL := 3) (ret := (some .boolean)) (by decide) rfl ?_
  intro p e s m args below meth c s₁ B hml hv
  obtain ⟨rfl, hP, hKN⟩ := hv
  have hK := hKN.1
  have hx := B.exec
  have hb := B.bytes
  have hr := B.returns
  have hts := fun (w : Cond) (h : w ∈ gt) => atoms_spec (ws := w_Mo_noWord) B.pre w (List.mem_cons_of_mem _ h)
  have hown : s.vm.findClass R_Mo = some m.cls := findClass_of_methodNamed B.named
  have hlocks := B.notSynchronized
  have hl := lv_entry ([.ref hm, .int v, .int w]) (n := 3) (Nat.le_of_ble_eq_true rfl)
  rw [lg_entry_eq]
  generalize (lg_sl ([.ref hm, .int v, .int w]) ++ List.replicate (3 - (lg_sl ([.ref hm, .int v, .int w])).length) Slot.unset).toArray = ls at hl ⊢
  have hl : lv_has ls 3 [(0, .ref hm), (1, .int v), (2, .int w)] := hl
  refine lv_iload_n hx hb d_Mo_noWord_0 rfl (lv_at hl 1 rfl) ?_
  refine lv_if_lt (tgt := 22) hx hb d_Mo_noWord_1 (by decide) (fun h_1 => ?_) (fun h_1 => ?_)
  · refine lv_iconst (v := (nI 1)) hx hb d_Mo_noWord_22 (by decide) ?_
    refine lv_goto (tgt := 27) hx hb d_Mo_noWord_23 (by decide) ?_
    exact W.zret (v := (bI true)) hx hb hr (bI_narrow _) (fun t ht hW => ⟨_, rfl, (by first | rfl | (simp only [noW, if_pos h_1]; done) | (simp only [noW, if_pos h_1]; rfl) | (simp [noW, h_1]; done)), ht⟩) (fun q h => by cases h) d_Mo_noWord_27
  · refine lv_iload_n hx hb d_Mo_noWord_4 rfl (lv_at hl 1 rfl) ?_
    refine lv_aload_n hx hb d_Mo_noWord_5 rfl (lv_at hl 0 rfl) ?_
    refine va_get (D := (dC, dI)) (ci := 3) (v := .int (nI cn)) (C := R_Mo) (T := F_Mo) (N := 15) hx hb hts in_Mo hown hK hP 0 rfl rfl 2 (by decide) (hts _ kw_441) (fun _ h9 => h9) rfl d_Mo_noWord_6 ?_
    refine lv_icmp_ge (tgt := 22) hx hb d_Mo_noWord_9 (by decide) (fun h_2 => ?_) (fun h_2 => ?_)
    · refine lv_iconst (v := (nI 1)) hx hb d_Mo_noWord_22 (by decide) ?_
      refine lv_goto (tgt := 27) hx hb d_Mo_noWord_23 (by decide) ?_
      exact W.zret (v := (bI true)) hx hb hr (bI_narrow _) (fun t ht hW => ⟨_, rfl, (by first | rfl | (simp only [noW, if_neg h_1, if_pos h_2]; done) | (simp only [noW, if_neg h_1, if_pos h_2]; rfl) | (simp [noW, h_1, h_2]; done)), ht⟩) (fun q h => by cases h) d_Mo_noWord_27
    · refine lv_iload_n hx hb d_Mo_noWord_12 rfl (lv_at hl 2 rfl) ?_
      refine lv_if_lt (tgt := 22) hx hb d_Mo_noWord_13 (by decide) (fun h_3 => ?_) (fun h_3 => ?_)
      · refine lv_iconst (v := (nI 1)) hx hb d_Mo_noWord_22 (by decide) ?_
        refine lv_goto (tgt := 27) hx hb d_Mo_noWord_23 (by decide) ?_
        exact W.zret (v := (bI true)) hx hb hr (bI_narrow _) (fun t ht hW => ⟨_, rfl, (by first | rfl | (simp only [noW, if_neg h_1, if_neg h_2, if_pos h_3]; done) | (simp only [noW, if_neg h_1, if_neg h_2, if_pos h_3]; rfl) | (simp [noW, h_1, h_2, h_3]; done)), ht⟩) (fun q h => by cases h) d_Mo_noWord_27
      · refine lv_iload_n hx hb d_Mo_noWord_16 rfl (lv_at hl 2 rfl) ?_
        refine lv_bipush (v := (nI 16)) hx hb d_Mo_noWord_17 (by decide) ?_
        refine lv_icmp_le (tgt := 26) hx hb d_Mo_noWord_19 (by decide) (fun h_4 => ?_) (fun h_4 => ?_)
        · refine lv_iconst (v := (nI 0)) hx hb d_Mo_noWord_26 (by decide) ?_
          exact W.zret (v := (bI false)) hx hb hr (bI_narrow _) (fun t ht hW => ⟨_, rfl, (by first | rfl | (simp only [noW, if_neg h_1, if_neg h_2, if_neg h_3, if_pos h_4]; done) | (simp only [noW, if_neg h_1, if_neg h_2, if_neg h_3, if_pos h_4]; rfl) | (simp [noW, h_1, h_2, h_3, h_4]; done)), ht⟩) (fun q h => by cases h) d_Mo_noWord_27
        · refine lv_iconst (v := (nI 1)) hx hb d_Mo_noWord_22 (by decide) ?_
          refine lv_goto (tgt := 27) hx hb d_Mo_noWord_23 (by decide) ?_
          exact W.zret (v := (bI true)) hx hb hr (bI_narrow _) (fun t ht hW => ⟨_, rfl, (by first | rfl | (simp only [noW, if_neg h_1, if_neg h_2, if_neg h_3, if_neg h_4]; done) | (simp only [noW, if_neg h_1, if_neg h_2, if_neg h_3, if_neg h_4]; rfl) | (simp [noW, h_1, h_2, h_3, h_4]; done)), ht⟩) (fun q h => by cases h) d_Mo_noWord_27
set_option maxHeartbeats 4000000 in
set_option maxRecDepth 100000 in
theorem c_Mo_alter (l : Launch) (dC : Nat → ClassId) (dI : Nat → Nat → Nat) (cI : ClassId) (hm : Nat) (v : Int32) (w : Int32) (x : Int32) (sc : Int32) (hw : Nat) (cn : Nat) (fu : Nat) (lf : Int32) (dd : Bool) (dn : Int32) (rn : Int32) (tr : Bool) (lg : Nat) (he : Nat) (me : Int32) (hd : Nat) (hen : Nat) (hnd : Nat) (M : Nat → Int32) (hcn : cn ≤ 7) (sz : Nat) : Met l y_Mo_alter w_Mo_alter ({ frames := 1, cells := 0, slots := 0, locals := 22 }) (va_Pc [.ref hm, .int v, .int w, .int x] (fun U => U.heap.size = sz ∧ va_P (dC, dI) classes [(hm, .inr (3, [.int sc, .ref hw, .int (nI cn), .int (nI fu), .int lf, .int (bI dd), .int dn, .int rn, .int (bI tr), .int (nI lg), .ref he, .int me, .ref hd, .ref hen, .ref hnd])), (hw, .inl (cI, 160, .inl M))] U.heap ∧ KN dC dI cI U ∧ va_D (fun _ => True) [(hm, .inr (3, [.int sc, .ref hw, .int (nI cn), .int (nI fu), .int lf, .int (bI dd), .int dn, .int rn, .int (bI tr), .int (nI lg), .ref he, .int me, .ref hd, .ref hen, .ref hnd])), (hw, .inl (cI, 160, .inl M))])) (va_Qi (fun (r : Int32) (u : (Nat → Int32)) => ∃ res : Bool, r = bI res ∧ (altM v w x cn M = (res, u))) (fun (u : (Nat → Int32)) t => va_P (dC, dI) classes [(hm, .inr (3, [.int sc, .ref hw, .int (nI cn), .int (nI fu), .int lf, .int (bI dd), .int dn, .int rn, .int (bI tr), .int (nI lg), .ref he, .int me, .ref hd, .ref hen, .ref hnd])), (hw, .inl (cI, 160, .inl u))] t.heap ∧ va_D (va_A [(hm, .inr (3, [.int sc, .ref hw, .int (nI cn), .int (nI fu), .int lf, .int (bI dd), .int dn, .int rn, .int (bI tr), .int (nI lg), .ref he, .int me, .ref hd, .ref hen, .ref hnd])), (hw, .inl (cI, 160, .inl M))] sz) [(hm, .inr (3, [.int sc, .ref hw, .int (nI cn), .int (nI fu), .int lf, .int (bI dd), .int dn, .int rn, .int (bI tr), .int (nI lg), .ref he, .int me, .ref hd, .ref hen, .ref hnd])), (hw, .inl (cI, 160, .inl u))]) (va_A [(hm, .inr (3, [.int sc, .ref hw, .int (nI cn), .int (nI fu), .int lf, .int (bI dd), .int dn, .int rn, .int (bI tr), .int (nI lg), .ref he, .int me, .ref hd, .ref hen, .ref hnd])), (hw, .inl (cI, 160, .inl M))] sz)) 0 0 (va_A [(hm, .inr (3, [.int sc, .ref hw, .int (nI cn), .int (nI fu), .int lf, .int (bI dd), .int dn, .int rn, .int (bI tr), .int (nI lg), .ref he, .int me, .ref hd, .ref hen, .ref hnd])), (hw, .inl (cI, 160, .inl M))] sz) := by
  refine Met.ofW (cc := b_Mo_alter) (maxL := 4) (ret := (some .boolean)) (by decide) rfl ?_
  intro p e s m args below meth c s₁ B hml hv
  obtain ⟨rfl, hsz, hP, hKN, hD0⟩ := hv
  have hK := hKN.1
  have hx := B.exec
  have hb := B.bytes
  have hr := B.returns
  have hts := fun (w : Cond) (h : w ∈ gt) => atoms_spec (ws := w_Mo_alter) B.pre w (List.mem_cons_of_mem _ h)
  have hown : s.vm.findClass R_Mo = some m.cls := findClass_of_methodNamed B.named
  have hlocks := B.notSynchronized
  subst hsz
  have hD := hD0.self (sz := s.heap.size)
  generalize hAe : va_A [(hm, .inr (3, [.int sc, .ref hw, .int (nI cn), .int (nI fu), .int lf, .int (bI dd), .int dn, .int rn, .int (bI tr), .int (nI lg), .ref he, .int me, .ref hd, .ref hen, .ref hnd])), (hw, .inl (cI, 160, .inl M))] s.heap.size = A at hD ⊢
  have hA : ∀ q : Nat, s.heap.size ≤ q → A q := fun q h => by rw [← hAe]; exact Or.inr h
  have hS : va_S A s.heap s.heap [] := va_S.rf
  have hP : va_P (dC, dI) classes [(hm, .inr (3, [.int sc, .ref hw, .int (nI cn), .int (nI fu), .int lf, .int (bI dd), .int dn, .int rn, .int (bI tr), .int (nI lg), .ref he, .int me, .ref hd, .ref hen, .ref hnd])), (hw, .inl (cI, 160, .inl M))] s.heap := hP
  clear hAe hD0
  have hl := lv_entry ([.ref hm, .int v, .int w, .int x]) (n := 4) (Nat.le_of_ble_eq_true rfl)
  rw [lg_entry_eq]
  generalize (lg_sl ([.ref hm, .int v, .int w, .int x]) ++ List.replicate (4 - (lg_sl ([.ref hm, .int v, .int w, .int x])).length) Slot.unset).toArray = ls at hl ⊢
  have hl : lv_has ls 4 [(0, .ref hm), (1, .int v), (2, .int w), (3, .int x)] := hl
  rcases pw_or (v := v) (w := w) (n := cn) (by omega) with ⟨j, i, hj, hi, rfl, rfl, hjp⟩ | hbad
  · refine lv_aload_n hx hb d_Mo_alter_0 rfl (lv_at hl 0 rfl) ?_
    refine lv_iload_n hx hb d_Mo_alter_1 rfl (lv_at hl 1 rfl) ?_
    refine lv_iload_n hx hb d_Mo_alter_2 rfl (lv_at hl 2 rfl) ?_
    refine pr_call (va_runV (As := [.int (nI j), .int (nI i)]) (rest := []) ⟨hx, hb, hml, hown, hts⟩ (c_Mo_noWord l dC dI cI (hm := hm) (v := (nI j)) (w := (nI i)) (sc := sc) (hw := hw) (cn := cn) (fu := fu) (lf := lf) (dd := dd) (dn := dn) (rn := rn) (tr := tr) (lg := lg) (he := he) (me := me) (hd := hd) (hen := hen) (hnd := hnd) ) ⟨callB_of 2 hts (gd kw_500) rfl rfl rfl (hts _ kw_41) (hts _ kw_497) (by decide +kernel) ⟨Nat.le_of_ble_eq_true rfl, Nat.le_of_ble_eq_true rfl⟩, (hts _ kw_499), (hts _ kw_22)⟩ ⟨fun a U g mk q => by obtain ⟨q0, qP, qK⟩ := q; exact ⟨q0, qP, qK.call⟩, va_recv hK hP (ci := 3) rfl (q0 := 0) rfl, fun U hU hW => ⟨rfl, by rw [hU]; exact hP.sub [0] rfl, hKN.warm hW⟩⟩ rfl rfl hl.1 rfl (lv_room (Nat.le_of_ble_eq_true rfl)) d_Mo_alter_3 ⟨Nat.zero_le _, Nat.zero_le _⟩) ?_
    refine tp (congrArg bI (noW_eq _ _ _)) ?_
    refine bz_eq (tgt := 11) hx hb d_Mo_alter_6 (by decide) (fun h_1 => ?_) (fun h_1 => ?_)
    · refine lv_aload_n hx hb d_Mo_alter_11 rfl (lv_at hl 0 rfl) ?_
      refine va_get (D := (dC, dI)) (ci := 3) (v := .ref hw) (C := R_Mo) (T := F_Mo) (N := 15) hx hb hts in_Mo hown hK hP 0 rfl rfl 1 (by decide) (hts _ kw_440) (fun _ h9 => h9) rfl d_Mo_alter_12 ?_
      refine lv_bipush (v := (nI 40)) hx hb d_Mo_alter_15 (by decide) ?_
      refine lv_bipush (v := (nI 17)) hx hb d_Mo_alter_17 (by decide) ?_
      refine lv_iload_n hx hb d_Mo_alter_19 rfl (lv_at hl 1 rfl) ?_
      refine lv_imul hx hb d_Mo_alter_20 ?_
      refine tp (pk_mul _ _) ?_
      refine lv_iadd hx hb d_Mo_alter_21 ?_
      refine tp (nI_add _ _) ?_
      refine lv_iload_n hx hb d_Mo_alter_22 rfl (lv_at hl 2 rfl) ?_
      refine lv_iadd hx hb d_Mo_alter_23 ?_
      refine tp (nI_add _ _) ?_
      refine lv_iload_n hx hb d_Mo_alter_24 rfl (lv_at hl 3 rfl) ?_
      refine ar_st (k := (40 + (17 * j)) + i) hx hb hK hP hD hS 1 0 rfl rfl (by omega) (by first | decide | omega) d_Mo_alter_25 (fun H locs hP hD hS => ?_)
      have hP : va_P (dC, dI) classes [(hm, .inr (3, [.int sc, .ref hw, .int (nI cn), .int (nI fu), .int lf, .int (bI dd), .int dn, .int rn, .int (bI tr), .int (nI lg), .ref he, .int me, .ref hd, .ref hen, .ref hnd])), (hw, .inl (cI, 160, .inl (upd M ((40 + (17 * j)) + i) x)))] H := hP
      have hD : va_D A [(hm, .inr (3, [.int sc, .ref hw, .int (nI cn), .int (nI fu), .int lf, .int (bI dd), .int dn, .int rn, .int (bI tr), .int (nI lg), .ref he, .int me, .ref hd, .ref hen, .ref hnd])), (hw, .inl (cI, 160, .inl (upd M ((40 + (17 * j)) + i) x)))] := hD
      refine lv_iconst (v := (nI 1)) hx hb d_Mo_alter_26 (by decide) ?_
      exact W.zret (v := (bI true)) hx hb hr (bI_narrow _) (fun t ht hW => ⟨⟨_, (upd M ((40 + (17 * j)) + i) x), rfl, ⟨true, rfl, (by rw [altM, hjp, nI_clamp (by omega), nI_clamp (by omega)]; rfl)⟩, by rw [ht]; exact hP, hD⟩, hS.F ht⟩) hS.2.2 d_Mo_alter_27
    · simp [hjp] at h_1
  · refine lv_aload_n hx hb d_Mo_alter_0 rfl (lv_at hl 0 rfl) ?_
    refine lv_iload_n hx hb d_Mo_alter_1 rfl (lv_at hl 1 rfl) ?_
    refine lv_iload_n hx hb d_Mo_alter_2 rfl (lv_at hl 2 rfl) ?_
    refine pr_call (va_runV (As := [.int v, .int w]) (rest := []) ⟨hx, hb, hml, hown, hts⟩ (c_Mo_noWord l dC dI cI (hm := hm) (v := v) (w := w) (sc := sc) (hw := hw) (cn := cn) (fu := fu) (lf := lf) (dd := dd) (dn := dn) (rn := rn) (tr := tr) (lg := lg) (he := he) (me := me) (hd := hd) (hen := hen) (hnd := hnd) ) ⟨callB_of 2 hts (gd kw_500) rfl rfl rfl (hts _ kw_41) (hts _ kw_497) (by decide +kernel) ⟨Nat.le_of_ble_eq_true rfl, Nat.le_of_ble_eq_true rfl⟩, (hts _ kw_499), (hts _ kw_22)⟩ ⟨fun a U g mk q => by obtain ⟨q0, qP, qK⟩ := q; exact ⟨q0, qP, qK.call⟩, va_recv hK hP (ci := 3) rfl (q0 := 0) rfl, fun U hU hW => ⟨rfl, by rw [hU]; exact hP.sub [0] rfl, hKN.warm hW⟩⟩ rfl rfl hl.1 rfl (lv_room (Nat.le_of_ble_eq_true rfl)) d_Mo_alter_3 ⟨Nat.zero_le _, Nat.zero_le _⟩) ?_
    refine tp (congrArg bI (noW_eq _ _ _)) ?_
    refine bz_eq (tgt := 11) hx hb d_Mo_alter_6 (by decide) (fun h_2 => ?_) (fun h_2 => ?_)
    · simp [hbad] at h_2
    · refine lv_iconst (v := (nI 0)) hx hb d_Mo_alter_9 (by decide) ?_
      exact W.zret (v := (bI false)) hx hb hr (bI_narrow _) (fun t ht hW => ⟨⟨_, M, rfl, ⟨false, rfl, (by rw [altM, hbad]; rfl)⟩, by rw [ht]; exact hP, hD⟩, hS.F ht⟩) hS.2.2 d_Mo_alter_10
set_option maxHeartbeats 4000000 in
set_option maxRecDepth 100000 in
theorem c_Mo_word (l : Launch) (dC : Nat → ClassId) (dI : Nat → Nat → Nat) (cI : ClassId) (hm : Nat) (v : Int32) (w : Int32) (sc : Int32) (hw : Nat) (cn : Nat) (fu : Nat) (lf : Int32) (dd : Bool) (dn : Int32) (rn : Int32) (tr : Bool) (lg : Nat) (he : Nat) (me : Int32) (hd : Nat) (hen : Nat) (hnd : Nat) (M : Nat → Int32) (hcn : cn ≤ 7) : Met l y_Mo_word w_Mo_word ({ frames := 1, cells := 0, slots := 0, locals := 22 }) (va_Pc [.ref hm, .int v, .int w] (fun U => va_P (dC, dI) classes [(hm, .inr (3, [.int sc, .ref hw, .int (nI cn), .int (nI fu), .int lf, .int (bI dd), .int dn, .int rn, .int (bI tr), .int (nI lg), .ref he, .int me, .ref hd, .ref hen, .ref hnd])), (hw, .inl (cI, 160, .inl M))] U.heap ∧ KN dC dI cI U)) (qr (wrdM v w cn M)) 0 0 (fun _ => False) := by
  refine Met.ofW (cc := b_Mo_word) (maxL := 3) (ret := (some .int)) (by decide) rfl ?_
  intro p e s m args below meth c s₁ B hml hv
  obtain ⟨rfl, hP, hKN⟩ := hv
  have hK := hKN.1
  have hx := B.exec
  have hb := B.bytes
  have hr := B.returns
  have hts := fun (w : Cond) (h : w ∈ gt) => atoms_spec (ws := w_Mo_word) B.pre w (List.mem_cons_of_mem _ h)
  have hown : s.vm.findClass R_Mo = some m.cls := findClass_of_methodNamed B.named
  have hlocks := B.notSynchronized
  have hl := lv_entry ([.ref hm, .int v, .int w]) (n := 3) (Nat.le_of_ble_eq_true rfl)
  rw [lg_entry_eq]
  generalize (lg_sl ([.ref hm, .int v, .int w]) ++ List.replicate (3 - (lg_sl ([.ref hm, .int v, .int w])).length) Slot.unset).toArray = ls at hl ⊢
  have hl : lv_has ls 3 [(0, .ref hm), (1, .int v), (2, .int w)] := hl
  rcases pw_or (v := v) (w := w) (n := cn) (by omega) with ⟨j, i, hj, hi, rfl, rfl, hjp⟩ | hbad
  · refine lv_aload_n hx hb d_Mo_word_0 rfl (lv_at hl 0 rfl) ?_
    refine lv_iload_n hx hb d_Mo_word_1 rfl (lv_at hl 1 rfl) ?_
    refine lv_iload_n hx hb d_Mo_word_2 rfl (lv_at hl 2 rfl) ?_
    refine pr_call (va_runV (As := [.int (nI j), .int (nI i)]) (rest := []) ⟨hx, hb, hml, hown, hts⟩ (c_Mo_noWord l dC dI cI (hm := hm) (v := (nI j)) (w := (nI i)) (sc := sc) (hw := hw) (cn := cn) (fu := fu) (lf := lf) (dd := dd) (dn := dn) (rn := rn) (tr := tr) (lg := lg) (he := he) (me := me) (hd := hd) (hen := hen) (hnd := hnd) ) ⟨callB_of 2 hts (gd kw_500) rfl rfl rfl (hts _ kw_41) (hts _ kw_497) (by decide +kernel) ⟨Nat.le_of_ble_eq_true rfl, Nat.le_of_ble_eq_true rfl⟩, (hts _ kw_499), (hts _ kw_22)⟩ ⟨fun a U g mk q => by obtain ⟨q0, qP, qK⟩ := q; exact ⟨q0, qP, qK.call⟩, va_recv hK hP (ci := 3) rfl (q0 := 0) rfl, fun U hU hW => ⟨rfl, by rw [hU]; exact hP.sub [0] rfl, hKN.warm hW⟩⟩ rfl rfl hl.1 rfl (lv_room (Nat.le_of_ble_eq_true rfl)) d_Mo_word_3 ⟨Nat.zero_le _, Nat.zero_le _⟩) ?_
    refine tp (congrArg bI (noW_eq _ _ _)) ?_
    refine bz_eq (tgt := 13) hx hb d_Mo_word_6 (by decide) (fun h_1 => ?_) (fun h_1 => ?_)
    · refine lv_aload_n hx hb d_Mo_word_13 rfl (lv_at hl 0 rfl) ?_
      refine va_get (D := (dC, dI)) (ci := 3) (v := .ref hw) (C := R_Mo) (T := F_Mo) (N := 15) hx hb hts in_Mo hown hK hP 0 rfl rfl 1 (by decide) (hts _ kw_440) (fun _ h9 => h9) rfl d_Mo_word_14 ?_
      refine lv_bipush (v := (nI 40)) hx hb d_Mo_word_17 (by decide) ?_
      refine lv_bipush (v := (nI 17)) hx hb d_Mo_word_19 (by decide) ?_
      refine lv_iload_n hx hb d_Mo_word_21 rfl (lv_at hl 1 rfl) ?_
      refine lv_imul hx hb d_Mo_word_22 ?_
      refine tp (pk_mul _ _) ?_
      refine lv_iadd hx hb d_Mo_word_23 ?_
      refine tp (nI_add _ _) ?_
      refine lv_iload_n hx hb d_Mo_word_24 rfl (lv_at hl 2 rfl) ?_
      refine lv_iadd hx hb d_Mo_word_25 ?_
      refine tp (nI_add _ _) ?_
      refine ar_ld (k := (40 + (17 * j)) + i) hx hb hK hP 1 0 rfl rfl (by omega) (by first | decide | omega) d_Mo_word_26 ?_
      exact W.iret (v := (M ((40 + (17 * j)) + i))) hx hb hr (fun t ht hW => ⟨_, rfl, (by rw [wrdM, hjp, nI_clamp (by omega), nI_clamp (by omega)]; rfl), ht⟩) (fun q h => by cases h) d_Mo_word_27
    · simp [hjp] at h_1
  · refine lv_aload_n hx hb d_Mo_word_0 rfl (lv_at hl 0 rfl) ?_
    refine lv_iload_n hx hb d_Mo_word_1 rfl (lv_at hl 1 rfl) ?_
    refine lv_iload_n hx hb d_Mo_word_2 rfl (lv_at hl 2 rfl) ?_
    refine pr_call (va_runV (As := [.int v, .int w]) (rest := []) ⟨hx, hb, hml, hown, hts⟩ (c_Mo_noWord l dC dI cI (hm := hm) (v := v) (w := w) (sc := sc) (hw := hw) (cn := cn) (fu := fu) (lf := lf) (dd := dd) (dn := dn) (rn := rn) (tr := tr) (lg := lg) (he := he) (me := me) (hd := hd) (hen := hen) (hnd := hnd) ) ⟨callB_of 2 hts (gd kw_500) rfl rfl rfl (hts _ kw_41) (hts _ kw_497) (by decide +kernel) ⟨Nat.le_of_ble_eq_true rfl, Nat.le_of_ble_eq_true rfl⟩, (hts _ kw_499), (hts _ kw_22)⟩ ⟨fun a U g mk q => by obtain ⟨q0, qP, qK⟩ := q; exact ⟨q0, qP, qK.call⟩, va_recv hK hP (ci := 3) rfl (q0 := 0) rfl, fun U hU hW => ⟨rfl, by rw [hU]; exact hP.sub [0] rfl, hKN.warm hW⟩⟩ rfl rfl hl.1 rfl (lv_room (Nat.le_of_ble_eq_true rfl)) d_Mo_word_3 ⟨Nat.zero_le _, Nat.zero_le _⟩) ?_
    refine tp (congrArg bI (noW_eq _ _ _)) ?_
    refine bz_eq (tgt := 13) hx hb d_Mo_word_6 (by decide) (fun h_2 => ?_) (fun h_2 => ?_)
    · simp [hbad] at h_2
    · refine lv_iconst (v := (nI 0)) hx hb d_Mo_word_9 (by decide) ?_
      refine lv_goto (tgt := 27) hx hb d_Mo_word_10 (by decide) ?_
      exact W.iret (v := (nI 0)) hx hb hr (fun t ht hW => ⟨_, rfl, (by rw [wrdM, hbad]; rfl), ht⟩) (fun q h => by cases h) d_Mo_word_27
set_option maxHeartbeats 4000000 in
set_option maxRecDepth 100000 in
theorem c_Mo_stranger (l : Launch) (dC : Nat → ClassId) (dI : Nat → Nat → Nat) (cI : ClassId) (hm : Nat) (b : Nat) (sc : Int32) (hw : Nat) (cn : Nat) (fu : Nat) (lf : Int32) (dd : Bool) (dn : Int32) (rn : Int32) (tr : Bool) (lg : Nat) (he : Nat) (me : Int32) (hd : Nat) (hen : Nat) (hnd : Nat) (M : Nat → Int32) (hb160 : b + 17 ≤ 160) : Met l y_Mo_stranger w_Mo_stranger ({ frames := 1, cells := 0, slots := 0, locals := 22 }) (va_Pc [.ref hm, .int (nI b)] (fun U => va_P (dC, dI) classes [(hm, .inr (3, [.int sc, .ref hw, .int (nI cn), .int (nI fu), .int lf, .int (bI dd), .int dn, .int rn, .int (bI tr), .int (nI lg), .ref he, .int me, .ref hd, .ref hen, .ref hnd])), (hw, .inl (cI, 160, .inl M))] U.heap ∧ KN dC dI cI U)) (qr (nI (strg (fun i => M (b + i))))) 0 0 (fun _ => False) := by
  refine Met.ofW (cc := b_Mo_stranger) (maxL := 3) (ret := (some .int)) (by decide) rfl ?_
  intro p e s m args below meth c s₁ B hml hv
  obtain ⟨rfl, hP, hKN⟩ := hv
  have hK := hKN.1
  have hx := B.exec
  have hb := B.bytes
  have hr := B.returns
  have hts := fun (w : Cond) (h : w ∈ gt) => atoms_spec (ws := w_Mo_stranger) B.pre w (List.mem_cons_of_mem _ h)
  have hown : s.vm.findClass R_Mo = some m.cls := findClass_of_methodNamed B.named
  have hlocks := B.notSynchronized
  have hl := lv_entry ([.ref hm, .int (nI b)]) (n := 3) (Nat.le_of_ble_eq_true rfl)
  rw [lg_entry_eq]
  generalize (lg_sl ([.ref hm, .int (nI b)]) ++ List.replicate (3 - (lg_sl ([.ref hm, .int (nI b)])).length) Slot.unset).toArray = ls at hl ⊢
  have hl : lv_has ls 3 [(0, .ref hm), (1, .int (nI b))] := hl
  refine lv_iconst (v := (nI 0)) hx hb d_Mo_stranger_0 (by decide) ?_
  refine lv_istore_n (lv' := [(2, .int (nI 0)), (0, .ref hm), (1, .int (nI b))]) hx hb d_Mo_stranger_1 rfl hl (by decide) rfl (fun ls hl => ?_)
  refine lv_iload_n hx hb d_Mo_stranger_2 rfl (lv_at hl 0 rfl) ?_
  refine lv_iconst (v := (nI 3)) hx hb d_Mo_stranger_3 (by decide) ?_
  refine nb_ge (tgt := 41) hx hb d_Mo_stranger_4 (by decide) (by decide) (by decide) (fun h_1 => ?_) (fun h_1 => ?_)
  · exact absurd h_1 (by decide)
  · refine lv_aload_n hx hb d_Mo_stranger_7 rfl (lv_at hl 1 rfl) ?_
    refine va_get (D := (dC, dI)) (ci := 3) (v := .ref hw) (C := R_Mo) (T := F_Mo) (N := 15) hx hb hts in_Mo hown hK hP 0 rfl rfl 1 (by decide) (hts _ kw_440) (fun _ h9 => h9) rfl d_Mo_stranger_8 ?_
    refine lv_iload_n hx hb d_Mo_stranger_11 rfl (lv_at hl 2 rfl) ?_
    refine lv_iconst (v := (nI 1)) hx hb d_Mo_stranger_12 (by decide) ?_
    refine lv_iadd hx hb d_Mo_stranger_13 ?_
    refine tp (nI_add _ _) ?_
    refine lv_iload_n hx hb d_Mo_stranger_14 rfl (lv_at hl 0 rfl) ?_
    refine lv_iadd hx hb d_Mo_stranger_15 ?_
    refine tp (y := (nI (b + 1))) (nI_add _ _) ?_
    refine ar_ld (k := b + 1) hx hb hK hP 1 0 rfl rfl (by omega) (by first | decide | omega) d_Mo_stranger_16 ?_
    refine lv_aload_n hx hb d_Mo_stranger_17 rfl (lv_at hl 1 rfl) ?_
    refine va_get (D := (dC, dI)) (ci := 3) (v := .ref hw) (C := R_Mo) (T := F_Mo) (N := 15) hx hb hts in_Mo hown hK hP 0 rfl rfl 1 (by decide) (hts _ kw_440) (fun _ h9 => h9) rfl d_Mo_stranger_18 ?_
    refine lv_iload_n hx hb d_Mo_stranger_21 rfl (lv_at hl 2 rfl) ?_
    refine lv_bipush (v := (nI 14)) hx hb d_Mo_stranger_22 (by decide) ?_
    refine lv_iadd hx hb d_Mo_stranger_24 ?_
    refine tp (nI_add _ _) ?_
    refine lv_iload_n hx hb d_Mo_stranger_25 rfl (lv_at hl 0 rfl) ?_
    refine lv_iadd hx hb d_Mo_stranger_26 ?_
    refine tp (y := (nI (b + 14))) (nI_add _ _) ?_
    refine ar_ld (k := b + 14) hx hb hK hP 1 0 rfl rfl (by omega) (by first | decide | omega) d_Mo_stranger_27 ?_
    refine lv_iload_n hx hb d_Mo_stranger_28 rfl (lv_at hl 0 rfl) ?_
    refine pr_call (va_runS (As := [.int (M (b + 14)), .int (nI 0)]) (rest := [.int (M (b + 1))]) ⟨hx, hb, hml, hown, hts⟩ (c_Mo_h l dC dI cI (a := M (b + 14)) (b := (nI 0)) ) ⟨callB_of 2 hts (gd kw_411) rfl rfl rfl (hts _ kw_41) (hts _ kw_409) (by decide +kernel) ⟨Nat.le_of_ble_eq_true rfl, Nat.le_of_ble_eq_true rfl⟩, (hts _ kw_410)⟩ ⟨fun a U g mk q => by obtain ⟨q0, qP, qK⟩ := q; exact ⟨q0, qP, qK.call⟩, fun U hU hW => ⟨rfl, by rw [hU]; exact hP.sub [] rfl, hKN.warm hW⟩⟩ rfl rfl hl.1 rfl (lv_room (Nat.le_of_ble_eq_true rfl)) d_Mo_stranger_29 ⟨Nat.zero_le _, Nat.zero_le _⟩) ?_
    refine lv_icmp_ne (tgt := 41) hx hb d_Mo_stranger_32 (by decide) (fun h_2 => ?_) (fun h_2 => ?_)
    · refine lv_iload_n hx hb d_Mo_stranger_41 rfl (lv_at hl 0 rfl) ?_
      exact W.iret (v := (nI 0)) hx hb hr (fun t ht hW => ⟨_, rfl, (by simp [strg, stOk, h_2]), ht⟩) (fun q h => by cases h) d_Mo_stranger_42
    · refine lv_iinc (k := 0) (v := (nI 1)) (lv' := [(2, .int (nI 1)), (0, .ref hm), (1, .int (nI b))]) hx hb d_Mo_stranger_35 hl rfl (by decide) (by decide) rfl (fun ls hl => ?_)
      refine lv_goto (tgt := 2) hx hb d_Mo_stranger_38 (by decide) ?_
      refine lv_iload_n hx hb d_Mo_stranger_2 rfl (lv_at hl 0 rfl) ?_
      refine lv_iconst (v := (nI 3)) hx hb d_Mo_stranger_3 (by decide) ?_
      refine nb_ge (tgt := 41) hx hb d_Mo_stranger_4 (by decide) (by decide) (by decide) (fun h_3 => ?_) (fun h_3 => ?_)
      · exact absurd h_3 (by decide)
      · refine lv_aload_n hx hb d_Mo_stranger_7 rfl (lv_at hl 1 rfl) ?_
        refine va_get (D := (dC, dI)) (ci := 3) (v := .ref hw) (C := R_Mo) (T := F_Mo) (N := 15) hx hb hts in_Mo hown hK hP 0 rfl rfl 1 (by decide) (hts _ kw_440) (fun _ h9 => h9) rfl d_Mo_stranger_8 ?_
        refine lv_iload_n hx hb d_Mo_stranger_11 rfl (lv_at hl 2 rfl) ?_
        refine lv_iconst (v := (nI 1)) hx hb d_Mo_stranger_12 (by decide) ?_
        refine lv_iadd hx hb d_Mo_stranger_13 ?_
        refine tp (nI_add _ _) ?_
        refine lv_iload_n hx hb d_Mo_stranger_14 rfl (lv_at hl 0 rfl) ?_
        refine lv_iadd hx hb d_Mo_stranger_15 ?_
        refine tp (y := (nI (b + 2))) (nI_add _ _) ?_
        refine ar_ld (k := b + 2) hx hb hK hP 1 0 rfl rfl (by omega) (by first | decide | omega) d_Mo_stranger_16 ?_
        refine lv_aload_n hx hb d_Mo_stranger_17 rfl (lv_at hl 1 rfl) ?_
        refine va_get (D := (dC, dI)) (ci := 3) (v := .ref hw) (C := R_Mo) (T := F_Mo) (N := 15) hx hb hts in_Mo hown hK hP 0 rfl rfl 1 (by decide) (hts _ kw_440) (fun _ h9 => h9) rfl d_Mo_stranger_18 ?_
        refine lv_iload_n hx hb d_Mo_stranger_21 rfl (lv_at hl 2 rfl) ?_
        refine lv_bipush (v := (nI 14)) hx hb d_Mo_stranger_22 (by decide) ?_
        refine lv_iadd hx hb d_Mo_stranger_24 ?_
        refine tp (nI_add _ _) ?_
        refine lv_iload_n hx hb d_Mo_stranger_25 rfl (lv_at hl 0 rfl) ?_
        refine lv_iadd hx hb d_Mo_stranger_26 ?_
        refine tp (y := (nI (b + 15))) (nI_add _ _) ?_
        refine ar_ld (k := b + 15) hx hb hK hP 1 0 rfl rfl (by omega) (by first | decide | omega) d_Mo_stranger_27 ?_
        refine lv_iload_n hx hb d_Mo_stranger_28 rfl (lv_at hl 0 rfl) ?_
        refine pr_call (va_runS (As := [.int (M (b + 15)), .int (nI 1)]) (rest := [.int (M (b + 2))]) ⟨hx, hb, hml, hown, hts⟩ (c_Mo_h l dC dI cI (a := M (b + 15)) (b := (nI 1)) ) ⟨callB_of 2 hts (gd kw_411) rfl rfl rfl (hts _ kw_41) (hts _ kw_409) (by decide +kernel) ⟨Nat.le_of_ble_eq_true rfl, Nat.le_of_ble_eq_true rfl⟩, (hts _ kw_410)⟩ ⟨fun a U g mk q => by obtain ⟨q0, qP, qK⟩ := q; exact ⟨q0, qP, qK.call⟩, fun U hU hW => ⟨rfl, by rw [hU]; exact hP.sub [] rfl, hKN.warm hW⟩⟩ rfl rfl hl.1 rfl (lv_room (Nat.le_of_ble_eq_true rfl)) d_Mo_stranger_29 ⟨Nat.zero_le _, Nat.zero_le _⟩) ?_
        refine lv_icmp_ne (tgt := 41) hx hb d_Mo_stranger_32 (by decide) (fun h_4 => ?_) (fun h_4 => ?_)
        · refine lv_iload_n hx hb d_Mo_stranger_41 rfl (lv_at hl 0 rfl) ?_
          exact W.iret (v := (nI 1)) hx hb hr (fun t ht hW => ⟨_, rfl, (by simp [strg, stOk, h_2, h_4]), ht⟩) (fun q h => by cases h) d_Mo_stranger_42
        · refine lv_iinc (k := 0) (v := (nI 2)) (lv' := [(2, .int (nI 2)), (0, .ref hm), (1, .int (nI b))]) hx hb d_Mo_stranger_35 hl rfl (by decide) (by decide) rfl (fun ls hl => ?_)
          refine lv_goto (tgt := 2) hx hb d_Mo_stranger_38 (by decide) ?_
          refine lv_iload_n hx hb d_Mo_stranger_2 rfl (lv_at hl 0 rfl) ?_
          refine lv_iconst (v := (nI 3)) hx hb d_Mo_stranger_3 (by decide) ?_
          refine nb_ge (tgt := 41) hx hb d_Mo_stranger_4 (by decide) (by decide) (by decide) (fun h_5 => ?_) (fun h_5 => ?_)
          · exact absurd h_5 (by decide)
          · refine lv_aload_n hx hb d_Mo_stranger_7 rfl (lv_at hl 1 rfl) ?_
            refine va_get (D := (dC, dI)) (ci := 3) (v := .ref hw) (C := R_Mo) (T := F_Mo) (N := 15) hx hb hts in_Mo hown hK hP 0 rfl rfl 1 (by decide) (hts _ kw_440) (fun _ h9 => h9) rfl d_Mo_stranger_8 ?_
            refine lv_iload_n hx hb d_Mo_stranger_11 rfl (lv_at hl 2 rfl) ?_
            refine lv_iconst (v := (nI 1)) hx hb d_Mo_stranger_12 (by decide) ?_
            refine lv_iadd hx hb d_Mo_stranger_13 ?_
            refine tp (nI_add _ _) ?_
            refine lv_iload_n hx hb d_Mo_stranger_14 rfl (lv_at hl 0 rfl) ?_
            refine lv_iadd hx hb d_Mo_stranger_15 ?_
            refine tp (y := (nI (b + 3))) (nI_add _ _) ?_
            refine ar_ld (k := b + 3) hx hb hK hP 1 0 rfl rfl (by omega) (by first | decide | omega) d_Mo_stranger_16 ?_
            refine lv_aload_n hx hb d_Mo_stranger_17 rfl (lv_at hl 1 rfl) ?_
            refine va_get (D := (dC, dI)) (ci := 3) (v := .ref hw) (C := R_Mo) (T := F_Mo) (N := 15) hx hb hts in_Mo hown hK hP 0 rfl rfl 1 (by decide) (hts _ kw_440) (fun _ h9 => h9) rfl d_Mo_stranger_18 ?_
            refine lv_iload_n hx hb d_Mo_stranger_21 rfl (lv_at hl 2 rfl) ?_
            refine lv_bipush (v := (nI 14)) hx hb d_Mo_stranger_22 (by decide) ?_
            refine lv_iadd hx hb d_Mo_stranger_24 ?_
            refine tp (nI_add _ _) ?_
            refine lv_iload_n hx hb d_Mo_stranger_25 rfl (lv_at hl 0 rfl) ?_
            refine lv_iadd hx hb d_Mo_stranger_26 ?_
            refine tp (y := (nI (b + 16))) (nI_add _ _) ?_
            refine ar_ld (k := b + 16) hx hb hK hP 1 0 rfl rfl (by omega) (by first | decide | omega) d_Mo_stranger_27 ?_
            refine lv_iload_n hx hb d_Mo_stranger_28 rfl (lv_at hl 0 rfl) ?_
            refine pr_call (va_runS (As := [.int (M (b + 16)), .int (nI 2)]) (rest := [.int (M (b + 3))]) ⟨hx, hb, hml, hown, hts⟩ (c_Mo_h l dC dI cI (a := M (b + 16)) (b := (nI 2)) ) ⟨callB_of 2 hts (gd kw_411) rfl rfl rfl (hts _ kw_41) (hts _ kw_409) (by decide +kernel) ⟨Nat.le_of_ble_eq_true rfl, Nat.le_of_ble_eq_true rfl⟩, (hts _ kw_410)⟩ ⟨fun a U g mk q => by obtain ⟨q0, qP, qK⟩ := q; exact ⟨q0, qP, qK.call⟩, fun U hU hW => ⟨rfl, by rw [hU]; exact hP.sub [] rfl, hKN.warm hW⟩⟩ rfl rfl hl.1 rfl (lv_room (Nat.le_of_ble_eq_true rfl)) d_Mo_stranger_29 ⟨Nat.zero_le _, Nat.zero_le _⟩) ?_
            refine lv_icmp_ne (tgt := 41) hx hb d_Mo_stranger_32 (by decide) (fun h_6 => ?_) (fun h_6 => ?_)
            · refine lv_iload_n hx hb d_Mo_stranger_41 rfl (lv_at hl 0 rfl) ?_
              exact W.iret (v := (nI 2)) hx hb hr (fun t ht hW => ⟨_, rfl, (by simp [strg, stOk, h_2, h_4, h_6]), ht⟩) (fun q h => by cases h) d_Mo_stranger_42
            · refine lv_iinc (k := 0) (v := (nI 3)) (lv' := [(2, .int (nI 3)), (0, .ref hm), (1, .int (nI b))]) hx hb d_Mo_stranger_35 hl rfl (by decide) (by decide) rfl (fun ls hl => ?_)
              refine lv_goto (tgt := 2) hx hb d_Mo_stranger_38 (by decide) ?_
              refine lv_iload_n hx hb d_Mo_stranger_2 rfl (lv_at hl 0 rfl) ?_
              refine lv_iconst (v := (nI 3)) hx hb d_Mo_stranger_3 (by decide) ?_
              refine nb_ge (tgt := 41) hx hb d_Mo_stranger_4 (by decide) (by decide) (by decide) (fun h_7 => ?_) (fun h_7 => ?_)
              · refine lv_iload_n hx hb d_Mo_stranger_41 rfl (lv_at hl 0 rfl) ?_
                exact W.iret (v := (nI 3)) hx hb hr (fun t ht hW => ⟨_, rfl, (by simp [strg, stOk, h_2, h_4, h_6]), ht⟩) (fun q h => by cases h) d_Mo_stranger_42
              · exact absurd h_7 (by decide)
set_option maxHeartbeats 4000000 in
set_option maxRecDepth 100000 in
theorem c_Mo_cut (l : Launch) (dC : Nat → ClassId) (dI : Nat → Nat → Nat) (cI : ClassId) (hm : Nat) (v : Int32) (sc : Int32) (hw : Nat) (cn : Nat) (fu : Nat) (lf : Int32) (dd : Bool) (dn : Int32) (rn : Int32) (tr : Bool) (lg : Nat) (he : Nat) (me : Int32) (hd : Nat) (hen : Nat) (hnd : Nat)  (sz : Nat) : Met l y_Mo_cut w_Mo_cut ({ frames := 0, cells := 0, slots := 0, locals := 0 }) (va_Pc [.ref hm, .int v] (fun U => U.heap.size = sz ∧ va_P (dC, dI) classes [(hm, .inr (3, [.int sc, .ref hw, .int (nI cn), .int (nI fu), .int lf, .int (bI dd), .int dn, .int rn, .int (bI tr), .int (nI lg), .ref he, .int me, .ref hd, .ref hen, .ref hnd]))] U.heap ∧ KN dC dI cI U ∧ va_D (fun _ => True) [(hm, .inr (3, [.int sc, .ref hw, .int (nI cn), .int (nI fu), .int lf, .int (bI dd), .int dn, .int rn, .int (bI tr), .int (nI lg), .ref he, .int me, .ref hd, .ref hen, .ref hnd]))])) (va_Qi (fun (r : Int32) (u : Int32) => ∃ res : Bool, r = bI res ∧ (cutS v lf = (res, u))) (fun (u : Int32) t => va_P (dC, dI) classes [(hm, .inr (3, [.int sc, .ref hw, .int (nI cn), .int (nI fu), .int u, .int (bI dd), .int dn, .int rn, .int (bI tr), .int (nI lg), .ref he, .int me, .ref hd, .ref hen, .ref hnd]))] t.heap ∧ va_D (va_A [(hm, .inr (3, [.int sc, .ref hw, .int (nI cn), .int (nI fu), .int lf, .int (bI dd), .int dn, .int rn, .int (bI tr), .int (nI lg), .ref he, .int me, .ref hd, .ref hen, .ref hnd]))] sz) [(hm, .inr (3, [.int sc, .ref hw, .int (nI cn), .int (nI fu), .int u, .int (bI dd), .int dn, .int rn, .int (bI tr), .int (nI lg), .ref he, .int me, .ref hd, .ref hen, .ref hnd]))]) (va_A [(hm, .inr (3, [.int sc, .ref hw, .int (nI cn), .int (nI fu), .int lf, .int (bI dd), .int dn, .int rn, .int (bI tr), .int (nI lg), .ref he, .int me, .ref hd, .ref hen, .ref hnd]))] sz)) 0 0 (va_A [(hm, .inr (3, [.int sc, .ref hw, .int (nI cn), .int (nI fu), .int lf, .int (bI dd), .int dn, .int rn, .int (bI tr), .int (nI lg), .ref he, .int me, .ref hd, .ref hen, .ref hnd]))] sz) := by
  refine Met.ofW (cc := b_Mo_cut) (maxL := 2) (ret := (some .boolean)) (by decide) rfl ?_
  intro p e s m args below meth c s₁ B hml hv
  obtain ⟨rfl, hsz, hP, hKN, hD0⟩ := hv
  have hK := hKN.1
  have hx := B.exec
  have hb := B.bytes
  have hr := B.returns
  have hts := fun (w : Cond) (h : w ∈ gt) => atoms_spec (ws := w_Mo_cut) B.pre w (List.mem_cons_of_mem _ h)
  have hown : s.vm.findClass R_Mo = some m.cls := findClass_of_methodNamed B.named
  have hlocks := B.notSynchronized
  subst hsz
  have hD := hD0.self (sz := s.heap.size)
  generalize hAe : va_A [(hm, .inr (3, [.int sc, .ref hw, .int (nI cn), .int (nI fu), .int lf, .int (bI dd), .int dn, .int rn, .int (bI tr), .int (nI lg), .ref he, .int me, .ref hd, .ref hen, .ref hnd]))] s.heap.size = A at hD ⊢
  have hA : ∀ q : Nat, s.heap.size ≤ q → A q := fun q h => by rw [← hAe]; exact Or.inr h
  have hS : va_S A s.heap s.heap [] := va_S.rf
  have hP : va_P (dC, dI) classes [(hm, .inr (3, [.int sc, .ref hw, .int (nI cn), .int (nI fu), .int lf, .int (bI dd), .int dn, .int rn, .int (bI tr), .int (nI lg), .ref he, .int me, .ref hd, .ref hen, .ref hnd]))] s.heap := hP
  clear hAe hD0
  have hl := lv_entry ([.ref hm, .int v]) (n := 2) (Nat.le_of_ble_eq_true rfl)
  rw [lg_entry_eq]
  generalize (lg_sl ([.ref hm, .int v]) ++ List.replicate (2 - (lg_sl ([.ref hm, .int v])).length) Slot.unset).toArray = ls at hl ⊢
  have hl : lv_has ls 2 [(0, .ref hm), (1, .int v)] := hl
  refine lv_iload_n hx hb d_Mo_cut_0 rfl (lv_at hl 1 rfl) ?_
  refine lv_iconst (v := (-1)) hx hb d_Mo_cut_1 (by decide) ?_
  refine lv_icmp_ge (tgt := 7) hx hb d_Mo_cut_2 (by decide) (fun h_1 => ?_) (fun h_1 => ?_)
  · refine lv_aload_n hx hb d_Mo_cut_7 rfl (lv_at hl 0 rfl) ?_
    refine lv_iload_n hx hb d_Mo_cut_8 rfl (lv_at hl 1 rfl) ?_
    refine va_put (D := (dC, dI)) (ci := 3) (v := .int v) (ty := .int) (C := R_Mo) (T := F_Mo) (N := 15) hx hb hts in_Mo t_Mo t_Mo_ok n_Mo hown hK hP hD hS 0 rfl rfl 4 (by decide) (hts _ kw_443) (fun _ h9 => h9) rfl (by decide +kernel) rfl rfl (Nat.le_of_ble_eq_true rfl) d_Mo_cut_9 (fun H locs hP hD hS => ?_)
    have hP : va_P (dC, dI) classes [(hm, .inr (3, [.int sc, .ref hw, .int (nI cn), .int (nI fu), .int v, .int (bI dd), .int dn, .int rn, .int (bI tr), .int (nI lg), .ref he, .int me, .ref hd, .ref hen, .ref hnd]))] H := hP
    have hD : va_D A [(hm, .inr (3, [.int sc, .ref hw, .int (nI cn), .int (nI fu), .int v, .int (bI dd), .int dn, .int rn, .int (bI tr), .int (nI lg), .ref he, .int me, .ref hd, .ref hen, .ref hnd]))] := hD
    refine lv_iconst (v := (nI 1)) hx hb d_Mo_cut_12 (by decide) ?_
    exact W.zret (v := (bI true)) hx hb hr (bI_narrow _) (fun t ht hW => ⟨⟨_, v, rfl, ⟨true, rfl, (by first | rfl | (simp only [cutS, if_pos h_1]; done) | (simp only [cutS, if_pos h_1]; rfl) | (simp [cutS, h_1]; done))⟩, by rw [ht]; exact hP, hD⟩, hS.F ht⟩) hS.2.2 d_Mo_cut_13
  · refine lv_iconst (v := (nI 0)) hx hb d_Mo_cut_5 (by decide) ?_
    exact W.zret (v := (bI false)) hx hb hr (bI_narrow _) (fun t ht hW => ⟨⟨_, lf, rfl, ⟨false, rfl, (by first | rfl | (simp only [cutS, if_neg h_1]; done) | (simp only [cutS, if_neg h_1]; rfl) | (simp [cutS, h_1]; done))⟩, by rw [ht]; exact hP, hD⟩, hS.F ht⟩) hS.2.2 d_Mo_cut_6
set_option maxHeartbeats 4000000 in
set_option maxRecDepth 100000 in
theorem c_Mo_running (l : Launch) (dC : Nat → ClassId) (dI : Nat → Nat → Nat) (cI : ClassId) (hm : Nat) (sc : Int32) (hw : Nat) (cn : Nat) (fu : Nat) (lf : Int32) (dd : Bool) (dn : Int32) (rn : Int32) (tr : Bool) (lg : Nat) (he : Nat) (me : Int32) (hd : Nat) (hen : Nat) (hnd : Nat)  : Met l y_Mo_running w_Mo_running ({ frames := 0, cells := 0, slots := 0, locals := 0 }) (va_Pc [.ref hm] (fun U => va_P (dC, dI) classes [(hm, .inr (3, [.int sc, .ref hw, .int (nI cn), .int (nI fu), .int lf, .int (bI dd), .int dn, .int rn, .int (bI tr), .int (nI lg), .ref he, .int me, .ref hd, .ref hen, .ref hnd]))] U.heap ∧ KN dC dI cI U)) (qr (rn)) 0 0 (fun _ => False) := by
  refine Met.ofW (cc := b_Mo_running) (maxL := 1) (ret := (some .int)) (by decide) rfl ?_
  intro p e s m args below meth c s₁ B hml hv
  obtain ⟨rfl, hP, hKN⟩ := hv
  have hK := hKN.1
  have hx := B.exec
  have hb := B.bytes
  have hr := B.returns
  have hts := fun (w : Cond) (h : w ∈ gt) => atoms_spec (ws := w_Mo_running) B.pre w (List.mem_cons_of_mem _ h)
  have hown : s.vm.findClass R_Mo = some m.cls := findClass_of_methodNamed B.named
  have hlocks := B.notSynchronized
  have hl := lv_entry ([.ref hm]) (n := 1) (Nat.le_of_ble_eq_true rfl)
  rw [lg_entry_eq]
  generalize (lg_sl ([.ref hm]) ++ List.replicate (1 - (lg_sl ([.ref hm])).length) Slot.unset).toArray = ls at hl ⊢
  have hl : lv_has ls 1 [(0, .ref hm)] := hl
  refine lv_aload_n hx hb d_Mo_running_0 rfl (lv_at hl 0 rfl) ?_
  refine va_get (D := (dC, dI)) (ci := 3) (v := .int rn) (C := R_Mo) (T := F_Mo) (N := 15) hx hb hts in_Mo hown hK hP 0 rfl rfl 7 (by decide) (hts _ kw_446) (fun _ h9 => h9) rfl d_Mo_running_1 ?_
  exact W.iret (v := rn) hx hb hr (fun t ht hW => ⟨_, rfl, (by first | rfl | (simp only []; done) | (simp only []; rfl) | (simp []; done)), ht⟩) (fun q h => by cases h) d_Mo_running_4
set_option maxHeartbeats 4000000 in
set_option maxRecDepth 100000 in
theorem c_Mo_onTrial (l : Launch) (dC : Nat → ClassId) (dI : Nat → Nat → Nat) (cI : ClassId) (hm : Nat) (sc : Int32) (hw : Nat) (cn : Nat) (fu : Nat) (lf : Int32) (dd : Bool) (dn : Int32) (rn : Int32) (tr : Bool) (lg : Nat) (he : Nat) (me : Int32) (hd : Nat) (hen : Nat) (hnd : Nat)  : Met l y_Mo_onTrial w_Mo_onTrial ({ frames := 0, cells := 0, slots := 0, locals := 0 }) (va_Pc [.ref hm] (fun U => va_P (dC, dI) classes [(hm, .inr (3, [.int sc, .ref hw, .int (nI cn), .int (nI fu), .int lf, .int (bI dd), .int dn, .int rn, .int (bI tr), .int (nI lg), .ref he, .int me, .ref hd, .ref hen, .ref hnd]))] U.heap ∧ KN dC dI cI U)) (qr (bI tr)) 0 0 (fun _ => False) := by
  refine Met.ofW (cc := b_Mo_onTrial) (maxL := 1) (ret := (some .boolean)) (by decide) rfl ?_
  intro p e s m args below meth c s₁ B hml hv
  obtain ⟨rfl, hP, hKN⟩ := hv
  have hK := hKN.1
  have hx := B.exec
  have hb := B.bytes
  have hr := B.returns
  have hts := fun (w : Cond) (h : w ∈ gt) => atoms_spec (ws := w_Mo_onTrial) B.pre w (List.mem_cons_of_mem _ h)
  have hown : s.vm.findClass R_Mo = some m.cls := findClass_of_methodNamed B.named
  have hlocks := B.notSynchronized
  have hl := lv_entry ([.ref hm]) (n := 1) (Nat.le_of_ble_eq_true rfl)
  rw [lg_entry_eq]
  generalize (lg_sl ([.ref hm]) ++ List.replicate (1 - (lg_sl ([.ref hm])).length) Slot.unset).toArray = ls at hl ⊢
  have hl : lv_has ls 1 [(0, .ref hm)] := hl
  refine lv_aload_n hx hb d_Mo_onTrial_0 rfl (lv_at hl 0 rfl) ?_
  refine va_get (D := (dC, dI)) (ci := 3) (v := .int (bI tr)) (C := R_Mo) (T := F_Mo) (N := 15) hx hb hts in_Mo hown hK hP 0 rfl rfl 8 (by decide) (hts _ kw_447) (fun _ h9 => h9) rfl d_Mo_onTrial_1 ?_
  exact W.zret (v := (bI tr)) hx hb hr (bI_narrow _) (fun t ht hW => ⟨_, rfl, (by first | rfl | (simp only []; done) | (simp only []; rfl) | (simp []; done)), ht⟩) (fun q h => by cases h) d_Mo_onTrial_4
set_option maxHeartbeats 4000000 in
set_option maxRecDepth 100000 in
theorem c_Mo_counter (l : Launch) (dC : Nat → ClassId) (dI : Nat → Nat → Nat) (cI : ClassId) (hm : Nat) (sc : Int32) (hw : Nat) (cn : Nat) (fu : Nat) (lf : Int32) (dd : Bool) (dn : Int32) (rn : Int32) (tr : Bool) (lg : Nat) (he : Nat) (me : Int32) (hd : Nat) (hen : Nat) (hnd : Nat)  : Met l y_Mo_counter w_Mo_counter ({ frames := 0, cells := 0, slots := 0, locals := 0 }) (va_Pc [.ref hm] (fun U => va_P (dC, dI) classes [(hm, .inr (3, [.int sc, .ref hw, .int (nI cn), .int (nI fu), .int lf, .int (bI dd), .int dn, .int rn, .int (bI tr), .int (nI lg), .ref he, .int me, .ref hd, .ref hen, .ref hnd]))] U.heap ∧ KN dC dI cI U)) (qr (nI fu)) 0 0 (fun _ => False) := by
  refine Met.ofW (cc := b_Mo_counter) (maxL := 1) (ret := (some .int)) (by decide) rfl ?_
  intro p e s m args below meth c s₁ B hml hv
  obtain ⟨rfl, hP, hKN⟩ := hv
  have hK := hKN.1
  have hx := B.exec
  have hb := B.bytes
  have hr := B.returns
  have hts := fun (w : Cond) (h : w ∈ gt) => atoms_spec (ws := w_Mo_counter) B.pre w (List.mem_cons_of_mem _ h)
  have hown : s.vm.findClass R_Mo = some m.cls := findClass_of_methodNamed B.named
  have hlocks := B.notSynchronized
  have hl := lv_entry ([.ref hm]) (n := 1) (Nat.le_of_ble_eq_true rfl)
  rw [lg_entry_eq]
  generalize (lg_sl ([.ref hm]) ++ List.replicate (1 - (lg_sl ([.ref hm])).length) Slot.unset).toArray = ls at hl ⊢
  have hl : lv_has ls 1 [(0, .ref hm)] := hl
  refine lv_aload_n hx hb d_Mo_counter_0 rfl (lv_at hl 0 rfl) ?_
  refine va_get (D := (dC, dI)) (ci := 3) (v := .int (nI fu)) (C := R_Mo) (T := F_Mo) (N := 15) hx hb hts in_Mo hown hK hP 0 rfl rfl 3 (by decide) (hts _ kw_442) (fun _ h9 => h9) rfl d_Mo_counter_1 ?_
  exact W.iret (v := (nI fu)) hx hb hr (fun t ht hW => ⟨_, rfl, (by first | rfl | (simp only []; done) | (simp only []; rfl) | (simp []; done)), ht⟩) (fun q h => by cases h) d_Mo_counter_4
set_option maxHeartbeats 4000000 in
set_option maxRecDepth 100000 in
theorem c_Mo_register (l : Launch) (dC : Nat → ClassId) (dI : Nat → Nat → Nat) (cI : ClassId) (hm : Nat) (sc : Int32) (hw : Nat) (cn : Nat) (fu : Nat) (lf : Int32) (dd : Bool) (dn : Int32) (rn : Int32) (tr : Bool) (lg : Nat) (he : Nat) (me : Int32) (hd : Nat) (hen : Nat) (hnd : Nat)  : Met l y_Mo_register w_Mo_register ({ frames := 0, cells := 0, slots := 0, locals := 0 }) (va_Pc [.ref hm] (fun U => va_P (dC, dI) classes [(hm, .inr (3, [.int sc, .ref hw, .int (nI cn), .int (nI fu), .int lf, .int (bI dd), .int dn, .int rn, .int (bI tr), .int (nI lg), .ref he, .int me, .ref hd, .ref hen, .ref hnd]))] U.heap ∧ KN dC dI cI U)) (qr (me)) 0 0 (fun _ => False) := by
  refine Met.ofW (cc := b_Mo_register) (maxL := 1) (ret := (some .int)) (by decide) rfl ?_
  intro p e s m args below meth c s₁ B hml hv
  obtain ⟨rfl, hP, hKN⟩ := hv
  have hK := hKN.1
  have hx := B.exec
  have hb := B.bytes
  have hr := B.returns
  have hts := fun (w : Cond) (h : w ∈ gt) => atoms_spec (ws := w_Mo_register) B.pre w (List.mem_cons_of_mem _ h)
  have hown : s.vm.findClass R_Mo = some m.cls := findClass_of_methodNamed B.named
  have hlocks := B.notSynchronized
  have hl := lv_entry ([.ref hm]) (n := 1) (Nat.le_of_ble_eq_true rfl)
  rw [lg_entry_eq]
  generalize (lg_sl ([.ref hm]) ++ List.replicate (1 - (lg_sl ([.ref hm])).length) Slot.unset).toArray = ls at hl ⊢
  have hl : lv_has ls 1 [(0, .ref hm)] := hl
  refine lv_aload_n hx hb d_Mo_register_0 rfl (lv_at hl 0 rfl) ?_
  refine va_get (D := (dC, dI)) (ci := 3) (v := .int me) (C := R_Mo) (T := F_Mo) (N := 15) hx hb hts in_Mo hown hK hP 0 rfl rfl 11 (by decide) (hts _ kw_450) (fun _ h9 => h9) rfl d_Mo_register_1 ?_
  exact W.iret (v := me) hx hb hr (fun t ht hW => ⟨_, rfl, (by first | rfl | (simp only []; done) | (simp only []; rfl) | (simp []; done)), ht⟩) (fun q h => by cases h) d_Mo_register_4
set_option maxHeartbeats 4000000 in
set_option maxRecDepth 100000 in
theorem c_Mo_writes (l : Launch) (dC : Nat → ClassId) (dI : Nat → Nat → Nat) (cI : ClassId) (hm : Nat) (sc : Int32) (hw : Nat) (cn : Nat) (fu : Nat) (lf : Int32) (dd : Bool) (dn : Int32) (rn : Int32) (tr : Bool) (lg : Nat) (he : Nat) (me : Int32) (hd : Nat) (hen : Nat) (hnd : Nat)  : Met l y_Mo_writes w_Mo_writes ({ frames := 0, cells := 0, slots := 0, locals := 0 }) (va_Pc [.ref hm] (fun U => va_P (dC, dI) classes [(hm, .inr (3, [.int sc, .ref hw, .int (nI cn), .int (nI fu), .int lf, .int (bI dd), .int dn, .int rn, .int (bI tr), .int (nI lg), .ref he, .int me, .ref hd, .ref hen, .ref hnd]))] U.heap ∧ KN dC dI cI U)) (qr (dn)) 0 0 (fun _ => False) := by
  refine Met.ofW (cc := b_Mo_writes) (maxL := 1) (ret := (some .int)) (by decide) rfl ?_
  intro p e s m args below meth c s₁ B hml hv
  obtain ⟨rfl, hP, hKN⟩ := hv
  have hK := hKN.1
  have hx := B.exec
  have hb := B.bytes
  have hr := B.returns
  have hts := fun (w : Cond) (h : w ∈ gt) => atoms_spec (ws := w_Mo_writes) B.pre w (List.mem_cons_of_mem _ h)
  have hown : s.vm.findClass R_Mo = some m.cls := findClass_of_methodNamed B.named
  have hlocks := B.notSynchronized
  have hl := lv_entry ([.ref hm]) (n := 1) (Nat.le_of_ble_eq_true rfl)
  rw [lg_entry_eq]
  generalize (lg_sl ([.ref hm]) ++ List.replicate (1 - (lg_sl ([.ref hm])).length) Slot.unset).toArray = ls at hl ⊢
  have hl : lv_has ls 1 [(0, .ref hm)] := hl
  refine lv_aload_n hx hb d_Mo_writes_0 rfl (lv_at hl 0 rfl) ?_
  refine va_get (D := (dC, dI)) (ci := 3) (v := .int dn) (C := R_Mo) (T := F_Mo) (N := 15) hx hb hts in_Mo hown hK hP 0 rfl rfl 6 (by decide) (hts _ kw_445) (fun _ h9 => h9) rfl d_Mo_writes_1 ?_
  exact W.iret (v := dn) hx hb hr (fun t ht hW => ⟨_, rfl, (by first | rfl | (simp only []; done) | (simp only []; rfl) | (simp []; done)), ht⟩) (fun q h => by cases h) d_Mo_writes_4
set_option maxHeartbeats 4000000 in
set_option maxRecDepth 100000 in
theorem c_Mo_log (l : Launch) (dC : Nat → ClassId) (dI : Nat → Nat → Nat) (cI : ClassId) (hm : Nat) (v : Int32) (sc : Int32) (hw : Nat) (cn : Nat) (fu : Nat) (lf : Int32) (dd : Bool) (dn : Int32) (rn : Int32) (tr : Bool) (lg : Nat) (he : Nat) (me : Int32) (hd : Nat) (hen : Nat) (hnd : Nat) (en : Nat → Int32) (hlg : lg ≤ 3) : Met l y_Mo_log w_Mo_log ({ frames := 0, cells := 0, slots := 0, locals := 0 }) (va_Pc [.ref hm, .int v] (fun U => va_P (dC, dI) classes [(hm, .inr (3, [.int sc, .ref hw, .int (nI cn), .int (nI fu), .int lf, .int (bI dd), .int dn, .int rn, .int (bI tr), .int (nI lg), .ref he, .int me, .ref hd, .ref hen, .ref hnd])), (he, .inl (cI, 3, .inl en))] U.heap ∧ KN dC dI cI U)) (qr (lgv v lg en)) 0 0 (fun _ => False) := by
  refine Met.ofW (cc := b_Mo_log) (maxL := 2) (ret := (some .int)) (by decide) rfl ?_
  intro p e s m args below meth c s₁ B hml hv
  obtain ⟨rfl, hP, hKN⟩ := hv
  have hK := hKN.1
  have hx := B.exec
  have hb := B.bytes
  have hr := B.returns
  have hts := fun (w : Cond) (h : w ∈ gt) => atoms_spec (ws := w_Mo_log) B.pre w (List.mem_cons_of_mem _ h)
  have hown : s.vm.findClass R_Mo = some m.cls := findClass_of_methodNamed B.named
  have hlocks := B.notSynchronized
  have hl := lv_entry ([.ref hm, .int v]) (n := 2) (Nat.le_of_ble_eq_true rfl)
  rw [lg_entry_eq]
  generalize (lg_sl ([.ref hm, .int v]) ++ List.replicate (2 - (lg_sl ([.ref hm, .int v])).length) Slot.unset).toArray = ls at hl ⊢
  have hl : lv_has ls 2 [(0, .ref hm), (1, .int v)] := hl
  rcases lg_or (v := v) (n := lg) (by omega) with rfl | ⟨j, hj, rfl⟩ | ⟨hn, hbad⟩
  · refine lv_iload_n hx hb d_Mo_log_0 rfl (lv_at hl 1 rfl) ?_
    refine lv_iconst (v := (-1)) hx hb d_Mo_log_1 (by decide) ?_
    refine lv_icmp_ne (tgt := 12) hx hb d_Mo_log_2 (by decide) (fun h_1 => ?_) (fun h_1 => ?_)
    · exact absurd h_1 (by decide)
    · refine lv_aload_n hx hb d_Mo_log_5 rfl (lv_at hl 0 rfl) ?_
      refine va_get (D := (dC, dI)) (ci := 3) (v := .int (nI lg)) (C := R_Mo) (T := F_Mo) (N := 15) hx hb hts in_Mo hown hK hP 0 rfl rfl 9 (by decide) (hts _ kw_448) (fun _ h9 => h9) rfl d_Mo_log_6 ?_
      refine lv_goto (tgt := 34) hx hb d_Mo_log_9 (by decide) ?_
      exact W.iret (v := (nI lg)) hx hb hr (fun t ht hW => ⟨_, rfl, (by rfl), ht⟩) (fun q h => by cases h) d_Mo_log_34
  · refine lv_iload_n hx hb d_Mo_log_0 rfl (lv_at hl 1 rfl) ?_
    refine lv_iconst (v := (-1)) hx hb d_Mo_log_1 (by decide) ?_
    refine lv_icmp_ne (tgt := 12) hx hb d_Mo_log_2 (by decide) (fun h_2 => ?_) (fun h_2 => ?_)
    · refine lv_iload_n hx hb d_Mo_log_12 rfl (lv_at hl 1 rfl) ?_
      refine nz_lt (tgt := 33) hx hb d_Mo_log_13 (by decide) (by omega) ?_
      refine lv_iload_n hx hb d_Mo_log_16 rfl (lv_at hl 1 rfl) ?_
      refine lv_aload_n hx hb d_Mo_log_17 rfl (lv_at hl 0 rfl) ?_
      refine va_get (D := (dC, dI)) (ci := 3) (v := .int (nI lg)) (C := R_Mo) (T := F_Mo) (N := 15) hx hb hts in_Mo hown hK hP 0 rfl rfl 9 (by decide) (hts _ kw_448) (fun _ h9 => h9) rfl d_Mo_log_18 ?_
      refine nb_ge (tgt := 33) hx hb d_Mo_log_21 (by decide) (by first | omega | exact Nat.lt_of_lt_of_le (stt_lt _ _) (by decide)) (by first | omega | exact Nat.lt_of_lt_of_le (stt_lt _ _) (by decide)) (fun h_4 => ?_) (fun h_4 => ?_)
      · omega
      · refine lv_aload_n hx hb d_Mo_log_24 rfl (lv_at hl 0 rfl) ?_
        refine va_get (D := (dC, dI)) (ci := 3) (v := .ref he) (C := R_Mo) (T := F_Mo) (N := 15) hx hb hts in_Mo hown hK hP 0 rfl rfl 10 (by decide) (hts _ kw_449) (fun _ h9 => h9) rfl d_Mo_log_25 ?_
        refine lv_iload_n hx hb d_Mo_log_28 rfl (lv_at hl 1 rfl) ?_
        refine ar_ld (k := j) hx hb hK hP 1 0 rfl rfl (by omega) (by first | decide | omega) d_Mo_log_29 ?_
        refine lv_goto (tgt := 34) hx hb d_Mo_log_30 (by decide) ?_
        exact W.iret (v := (en j)) hx hb hr (fun t ht hW => ⟨_, rfl, (by rw [lgv_in hj (by omega)]), ht⟩) (fun q h => by cases h) d_Mo_log_34
    · exact absurd h_2 (nI_m1 (by omega))
  · refine lv_iload_n hx hb d_Mo_log_0 rfl (lv_at hl 1 rfl) ?_
    refine lv_iconst (v := (-1)) hx hb d_Mo_log_1 (by decide) ?_
    refine lv_icmp_ne (tgt := 12) hx hb d_Mo_log_2 (by decide) (fun h_5 => ?_) (fun h_5 => ?_)
    · refine lv_iload_n hx hb d_Mo_log_12 rfl (lv_at hl 1 rfl) ?_
      refine lv_if_lt (tgt := 33) hx hb d_Mo_log_13 (by decide) (fun h_6 => ?_) (fun h_6 => ?_)
      · refine lv_iconst (v := (nI 0)) hx hb d_Mo_log_33 (by decide) ?_
        exact W.iret (v := (nI 0)) hx hb hr (fun t ht hW => ⟨_, rfl, (by rw [lgv_out hn hbad]), ht⟩) (fun q h => by cases h) d_Mo_log_34
      · refine lv_iload_n hx hb d_Mo_log_16 rfl (lv_at hl 1 rfl) ?_
        refine lv_aload_n hx hb d_Mo_log_17 rfl (lv_at hl 0 rfl) ?_
        refine va_get (D := (dC, dI)) (ci := 3) (v := .int (nI lg)) (C := R_Mo) (T := F_Mo) (N := 15) hx hb hts in_Mo hown hK hP 0 rfl rfl 9 (by decide) (hts _ kw_448) (fun _ h9 => h9) rfl d_Mo_log_18 ?_
        refine lv_icmp_ge (tgt := 33) hx hb d_Mo_log_21 (by decide) (fun h_7 => ?_) (fun h_7 => ?_)
        · refine lv_iconst (v := (nI 0)) hx hb d_Mo_log_33 (by decide) ?_
          exact W.iret (v := (nI 0)) hx hb hr (fun t ht hW => ⟨_, rfl, (by rw [lgv_out hn hbad]), ht⟩) (fun q h => by cases h) d_Mo_log_34
        · exact hbad.elim (fun z => absurd z h_6) (fun z => absurd z h_7)
    · exact absurd h_5 hn
set_option maxHeartbeats 4000000 in
set_option maxRecDepth 100000 in
theorem c_Mo_peek (l : Launch) (dC : Nat → ClassId) (dI : Nat → Nat → Nat) (cI : ClassId) (hm : Nat) (v : Int32) (sc : Int32) (hw : Nat) (cn : Nat) (fu : Nat) (lf : Int32) (dd : Bool) (dn : Int32) (rn : Int32) (tr : Bool) (lg : Nat) (he : Nat) (me : Int32) (hd : Nat) (hen : Nat) (hnd : Nat) (M : Nat → Int32)  : Met l y_Mo_peek w_Mo_peek ({ frames := 0, cells := 0, slots := 0, locals := 0 }) (va_Pc [.ref hm, .int v] (fun U => va_P (dC, dI) classes [(hm, .inr (3, [.int sc, .ref hw, .int (nI cn), .int (nI fu), .int lf, .int (bI dd), .int dn, .int rn, .int (bI tr), .int (nI lg), .ref he, .int me, .ref hd, .ref hen, .ref hnd])), (hw, .inl (cI, 160, .inl M))] U.heap ∧ KN dC dI cI U)) (qr (pee v M)) 0 0 (fun _ => False) := by
  refine Met.ofW (cc := b_Mo_peek) (maxL := 2) (ret := (some .int)) (by decide) rfl ?_
  intro p e s m args below meth c s₁ B hml hv
  obtain ⟨rfl, hP, hKN⟩ := hv
  have hK := hKN.1
  have hx := B.exec
  have hb := B.bytes
  have hr := B.returns
  have hts := fun (w : Cond) (h : w ∈ gt) => atoms_spec (ws := w_Mo_peek) B.pre w (List.mem_cons_of_mem _ h)
  have hown : s.vm.findClass R_Mo = some m.cls := findClass_of_methodNamed B.named
  have hlocks := B.notSynchronized
  have hl := lv_entry ([.ref hm, .int v]) (n := 2) (Nat.le_of_ble_eq_true rfl)
  rw [lg_entry_eq]
  generalize (lg_sl ([.ref hm, .int v]) ++ List.replicate (2 - (lg_sl ([.ref hm, .int v])).length) Slot.unset).toArray = ls at hl ⊢
  have hl : lv_has ls 2 [(0, .ref hm), (1, .int v)] := hl
  rcases pl_orM v with ⟨j, hj, rfl, hjp, hmx⟩ | ⟨hbad, hmx⟩
  · refine lv_iload_n hx hb d_Mo_peek_0 rfl (lv_at hl 1 rfl) ?_
    refine nz_lt (tgt := 10) hx hb d_Mo_peek_1 (by decide) (by omega) ?_
    refine lv_iload_n hx hb d_Mo_peek_4 rfl (lv_at hl 1 rfl) ?_
    refine lv_bipush (v := (nI 39)) hx hb d_Mo_peek_5 (by decide) ?_
    refine nb_le (tgt := 14) hx hb d_Mo_peek_7 (by decide) (by first | omega | exact Nat.lt_of_lt_of_le (stt_lt _ _) (by decide)) (by first | omega | exact Nat.lt_of_lt_of_le (stt_lt _ _) (by decide)) (fun h_2 => ?_) (fun h_2 => ?_)
    · refine lv_aload_n hx hb d_Mo_peek_14 rfl (lv_at hl 0 rfl) ?_
      refine va_get (D := (dC, dI)) (ci := 3) (v := .ref hw) (C := R_Mo) (T := F_Mo) (N := 15) hx hb hts in_Mo hown hK hP 0 rfl rfl 1 (by decide) (hts _ kw_440) (fun _ h9 => h9) rfl d_Mo_peek_15 ?_
      refine lv_iload_n hx hb d_Mo_peek_18 rfl (lv_at hl 1 rfl) ?_
      refine ar_ld (k := j) hx hb hK hP 1 0 rfl rfl (by omega) (by first | decide | omega) d_Mo_peek_19 ?_
      exact W.iret (v := (M j)) hx hb hr (fun t ht hW => ⟨_, rfl, (by rw [pee, hjp, nI_clamp (by omega)]; rfl), ht⟩) (fun q h => by cases h) d_Mo_peek_20
    · omega
  · refine lv_iload_n hx hb d_Mo_peek_0 rfl (lv_at hl 1 rfl) ?_
    refine lv_if_lt (tgt := 10) hx hb d_Mo_peek_1 (by decide) (fun h_3 => ?_) (fun h_3 => ?_)
    · refine lv_iconst (v := (nI 0)) hx hb d_Mo_peek_10 (by decide) ?_
      refine lv_goto (tgt := 20) hx hb d_Mo_peek_11 (by decide) ?_
      exact W.iret (v := (nI 0)) hx hb hr (fun t ht hW => ⟨_, rfl, (by rw [pee, hbad]; rfl), ht⟩) (fun q h => by cases h) d_Mo_peek_20
    · refine lv_iload_n hx hb d_Mo_peek_4 rfl (lv_at hl 1 rfl) ?_
      refine lv_bipush (v := (nI 39)) hx hb d_Mo_peek_5 (by decide) ?_
      refine lv_icmp_le (tgt := 14) hx hb d_Mo_peek_7 (by decide) (fun h_4 => ?_) (fun h_4 => ?_)
      · exact hmx.elim (fun z => absurd z h_3) (fun z => absurd h_4 z)
      · refine lv_iconst (v := (nI 0)) hx hb d_Mo_peek_10 (by decide) ?_
        refine lv_goto (tgt := 20) hx hb d_Mo_peek_11 (by decide) ?_
        exact W.iret (v := (nI 0)) hx hb hr (fun t ht hW => ⟨_, rfl, (by rw [pee, hbad]; rfl), ht⟩) (fun q h => by cases h) d_Mo_peek_20
set_option maxHeartbeats 4000000 in
set_option maxRecDepth 100000 in
theorem c_Mo_poke (l : Launch) (dC : Nat → ClassId) (dI : Nat → Nat → Nat) (cI : ClassId) (hm : Nat) (v : Int32) (x : Int32) (sc : Int32) (hw : Nat) (cn : Nat) (fu : Nat) (lf : Int32) (dd : Bool) (dn : Int32) (rn : Int32) (tr : Bool) (lg : Nat) (he : Nat) (me : Int32) (hd : Nat) (hen : Nat) (hnd : Nat) (M : Nat → Int32)  (sz : Nat) : Met l y_Mo_poke w_Mo_poke ({ frames := 0, cells := 0, slots := 0, locals := 0 }) (va_Pc [.ref hm, .int v, .int x] (fun U => U.heap.size = sz ∧ va_P (dC, dI) classes [(hm, .inr (3, [.int sc, .ref hw, .int (nI cn), .int (nI fu), .int lf, .int (bI dd), .int dn, .int rn, .int (bI tr), .int (nI lg), .ref he, .int me, .ref hd, .ref hen, .ref hnd])), (hw, .inl (cI, 160, .inl M))] U.heap ∧ KN dC dI cI U ∧ va_D (fun _ => True) [(hm, .inr (3, [.int sc, .ref hw, .int (nI cn), .int (nI fu), .int lf, .int (bI dd), .int dn, .int rn, .int (bI tr), .int (nI lg), .ref he, .int me, .ref hd, .ref hen, .ref hnd])), (hw, .inl (cI, 160, .inl M))])) (va_Qi (fun (r : Int32) (u : (Nat → Int32)) => ∃ res : Bool, r = bI res ∧ (pok v x M = (res, u))) (fun (u : (Nat → Int32)) t => va_P (dC, dI) classes [(hm, .inr (3, [.int sc, .ref hw, .int (nI cn), .int (nI fu), .int lf, .int (bI dd), .int dn, .int rn, .int (bI tr), .int (nI lg), .ref he, .int me, .ref hd, .ref hen, .ref hnd])), (hw, .inl (cI, 160, .inl u))] t.heap ∧ va_D (va_A [(hm, .inr (3, [.int sc, .ref hw, .int (nI cn), .int (nI fu), .int lf, .int (bI dd), .int dn, .int rn, .int (bI tr), .int (nI lg), .ref he, .int me, .ref hd, .ref hen, .ref hnd])), (hw, .inl (cI, 160, .inl M))] sz) [(hm, .inr (3, [.int sc, .ref hw, .int (nI cn), .int (nI fu), .int lf, .int (bI dd), .int dn, .int rn, .int (bI tr), .int (nI lg), .ref he, .int me, .ref hd, .ref hen, .ref hnd])), (hw, .inl (cI, 160, .inl u))]) (va_A [(hm, .inr (3, [.int sc, .ref hw, .int (nI cn), .int (nI fu), .int lf, .int (bI dd), .int dn, .int rn, .int (bI tr), .int (nI lg), .ref he, .int me, .ref hd, .ref hen, .ref hnd])), (hw, .inl (cI, 160, .inl M))] sz)) 0 0 (va_A [(hm, .inr (3, [.int sc, .ref hw, .int (nI cn), .int (nI fu), .int lf, .int (bI dd), .int dn, .int rn, .int (bI tr), .int (nI lg), .ref he, .int me, .ref hd, .ref hen, .ref hnd])), (hw, .inl (cI, 160, .inl M))] sz) := by
  refine Met.ofW (cc := b_Mo_poke) (maxL := 3) (ret := (some .boolean)) (by decide) rfl ?_
  intro p e s m args below meth c s₁ B hml hv
  obtain ⟨rfl, hsz, hP, hKN, hD0⟩ := hv
  have hK := hKN.1
  have hx := B.exec
  have hb := B.bytes
  have hr := B.returns
  have hts := fun (w : Cond) (h : w ∈ gt) => atoms_spec (ws := w_Mo_poke) B.pre w (List.mem_cons_of_mem _ h)
  have hown : s.vm.findClass R_Mo = some m.cls := findClass_of_methodNamed B.named
  have hlocks := B.notSynchronized
  subst hsz
  have hD := hD0.self (sz := s.heap.size)
  generalize hAe : va_A [(hm, .inr (3, [.int sc, .ref hw, .int (nI cn), .int (nI fu), .int lf, .int (bI dd), .int dn, .int rn, .int (bI tr), .int (nI lg), .ref he, .int me, .ref hd, .ref hen, .ref hnd])), (hw, .inl (cI, 160, .inl M))] s.heap.size = A at hD ⊢
  have hA : ∀ q : Nat, s.heap.size ≤ q → A q := fun q h => by rw [← hAe]; exact Or.inr h
  have hS : va_S A s.heap s.heap [] := va_S.rf
  have hP : va_P (dC, dI) classes [(hm, .inr (3, [.int sc, .ref hw, .int (nI cn), .int (nI fu), .int lf, .int (bI dd), .int dn, .int rn, .int (bI tr), .int (nI lg), .ref he, .int me, .ref hd, .ref hen, .ref hnd])), (hw, .inl (cI, 160, .inl M))] s.heap := hP
  clear hAe hD0
  have hl := lv_entry ([.ref hm, .int v, .int x]) (n := 3) (Nat.le_of_ble_eq_true rfl)
  rw [lg_entry_eq]
  generalize (lg_sl ([.ref hm, .int v, .int x]) ++ List.replicate (3 - (lg_sl ([.ref hm, .int v, .int x])).length) Slot.unset).toArray = ls at hl ⊢
  have hl : lv_has ls 3 [(0, .ref hm), (1, .int v), (2, .int x)] := hl
  rcases pl_orM v with ⟨j, hj, rfl, hjp, hmx⟩ | ⟨hbad, hmx⟩
  · refine lv_iload_n hx hb d_Mo_poke_0 rfl (lv_at hl 1 rfl) ?_
    refine nz_lt (tgt := 10) hx hb d_Mo_poke_1 (by decide) (by omega) ?_
    refine lv_iload_n hx hb d_Mo_poke_4 rfl (lv_at hl 1 rfl) ?_
    refine lv_bipush (v := (nI 39)) hx hb d_Mo_poke_5 (by decide) ?_
    refine nb_le (tgt := 12) hx hb d_Mo_poke_7 (by decide) (by first | omega | exact Nat.lt_of_lt_of_le (stt_lt _ _) (by decide)) (by first | omega | exact Nat.lt_of_lt_of_le (stt_lt _ _) (by decide)) (fun h_2 => ?_) (fun h_2 => ?_)
    · refine lv_aload_n hx hb d_Mo_poke_12 rfl (lv_at hl 0 rfl) ?_
      refine va_get (D := (dC, dI)) (ci := 3) (v := .ref hw) (C := R_Mo) (T := F_Mo) (N := 15) hx hb hts in_Mo hown hK hP 0 rfl rfl 1 (by decide) (hts _ kw_440) (fun _ h9 => h9) rfl d_Mo_poke_13 ?_
      refine lv_iload_n hx hb d_Mo_poke_16 rfl (lv_at hl 1 rfl) ?_
      refine lv_iload_n hx hb d_Mo_poke_17 rfl (lv_at hl 2 rfl) ?_
      refine ar_st (k := j) hx hb hK hP hD hS 1 0 rfl rfl (by omega) (by first | decide | omega) d_Mo_poke_18 (fun H locs hP hD hS => ?_)
      have hP : va_P (dC, dI) classes [(hm, .inr (3, [.int sc, .ref hw, .int (nI cn), .int (nI fu), .int lf, .int (bI dd), .int dn, .int rn, .int (bI tr), .int (nI lg), .ref he, .int me, .ref hd, .ref hen, .ref hnd])), (hw, .inl (cI, 160, .inl (upd M j x)))] H := hP
      have hD : va_D A [(hm, .inr (3, [.int sc, .ref hw, .int (nI cn), .int (nI fu), .int lf, .int (bI dd), .int dn, .int rn, .int (bI tr), .int (nI lg), .ref he, .int me, .ref hd, .ref hen, .ref hnd])), (hw, .inl (cI, 160, .inl (upd M j x)))] := hD
      refine lv_iconst (v := (nI 1)) hx hb d_Mo_poke_19 (by decide) ?_
      exact W.zret (v := (bI true)) hx hb hr (bI_narrow _) (fun t ht hW => ⟨⟨_, (upd M j x), rfl, ⟨true, rfl, (by rw [pok, hjp, nI_clamp (by omega)]; rfl)⟩, by rw [ht]; exact hP, hD⟩, hS.F ht⟩) hS.2.2 d_Mo_poke_20
    · omega
  · refine lv_iload_n hx hb d_Mo_poke_0 rfl (lv_at hl 1 rfl) ?_
    refine lv_if_lt (tgt := 10) hx hb d_Mo_poke_1 (by decide) (fun h_3 => ?_) (fun h_3 => ?_)
    · refine lv_iconst (v := (nI 0)) hx hb d_Mo_poke_10 (by decide) ?_
      exact W.zret (v := (bI false)) hx hb hr (bI_narrow _) (fun t ht hW => ⟨⟨_, M, rfl, ⟨false, rfl, (by rw [pok, hbad]; rfl)⟩, by rw [ht]; exact hP, hD⟩, hS.F ht⟩) hS.2.2 d_Mo_poke_11
    · refine lv_iload_n hx hb d_Mo_poke_4 rfl (lv_at hl 1 rfl) ?_
      refine lv_bipush (v := (nI 39)) hx hb d_Mo_poke_5 (by decide) ?_
      refine lv_icmp_le (tgt := 12) hx hb d_Mo_poke_7 (by decide) (fun h_4 => ?_) (fun h_4 => ?_)
      · exact hmx.elim (fun z => absurd z h_3) (fun z => absurd h_4 z)
      · refine lv_iconst (v := (nI 0)) hx hb d_Mo_poke_10 (by decide) ?_
        exact W.zret (v := (bI false)) hx hb hr (bI_narrow _) (fun t ht hW => ⟨⟨_, M, rfl, ⟨false, rfl, (by rw [pok, hbad]; rfl)⟩, by rw [ht]; exact hP, hD⟩, hS.F ht⟩) hS.2.2 d_Mo_poke_11
set_option maxHeartbeats 4000000 in
set_option maxRecDepth 100000 in
theorem c_Mo_answer (l : Launch) (dC : Nat → ClassId) (dI : Nat → Nat → Nat) (cI : ClassId) (hm : Nat) (g : Int32) (sc : Int32) (hw : Nat) (cn : Nat) (fu : Nat) (lf : Int32) (dd : Bool) (dn : Int32) (rn : Int32) (tr : Bool) (lg : Nat) (he : Nat) (me : Int32) (hd : Nat) (hen : Nat) (hnd : Nat)  (sz : Nat) : Met l y_Mo_answer w_Mo_answer ({ frames := 0, cells := 0, slots := 0, locals := 0 }) (va_Pc [.ref hm, .int g] (fun U => U.heap.size = sz ∧ va_P (dC, dI) classes [(hm, .inr (3, [.int sc, .ref hw, .int (nI cn), .int (nI fu), .int lf, .int (bI dd), .int dn, .int rn, .int (bI tr), .int (nI lg), .ref he, .int me, .ref hd, .ref hen, .ref hnd]))] U.heap ∧ KN dC dI cI U ∧ va_D (fun _ => True) [(hm, .inr (3, [.int sc, .ref hw, .int (nI cn), .int (nI fu), .int lf, .int (bI dd), .int dn, .int rn, .int (bI tr), .int (nI lg), .ref he, .int me, .ref hd, .ref hen, .ref hnd]))])) (va_Qi (fun (r : Int32) (u : Bool × Int32 × Bool × Nat × Int32) => answ g dd rn tr lg me = (r, u)) (fun (u : Bool × Int32 × Bool × Nat × Int32) t => va_P (dC, dI) classes [(hm, .inr (3, [.int sc, .ref hw, .int (nI cn), .int (nI fu), .int lf, .int (bI u.1), .int dn, .int u.2.1, .int (bI u.2.2.1), .int (nI u.2.2.2.1), .ref he, .int u.2.2.2.2, .ref hd, .ref hen, .ref hnd]))] t.heap ∧ va_D (va_A [(hm, .inr (3, [.int sc, .ref hw, .int (nI cn), .int (nI fu), .int lf, .int (bI dd), .int dn, .int rn, .int (bI tr), .int (nI lg), .ref he, .int me, .ref hd, .ref hen, .ref hnd]))] sz) [(hm, .inr (3, [.int sc, .ref hw, .int (nI cn), .int (nI fu), .int lf, .int (bI u.1), .int dn, .int u.2.1, .int (bI u.2.2.1), .int (nI u.2.2.2.1), .ref he, .int u.2.2.2.2, .ref hd, .ref hen, .ref hnd]))]) (va_A [(hm, .inr (3, [.int sc, .ref hw, .int (nI cn), .int (nI fu), .int lf, .int (bI dd), .int dn, .int rn, .int (bI tr), .int (nI lg), .ref he, .int me, .ref hd, .ref hen, .ref hnd]))] sz)) 0 0 (va_A [(hm, .inr (3, [.int sc, .ref hw, .int (nI cn), .int (nI fu), .int lf, .int (bI dd), .int dn, .int rn, .int (bI tr), .int (nI lg), .ref he, .int me, .ref hd, .ref hen, .ref hnd]))] sz) := by
  refine Met.ofW (cc := b_Mo_answer) (maxL := 2) (ret := (some .int)) (by decide) rfl ?_
  intro p e s m args below meth c s₁ B hml hv
  obtain ⟨rfl, hsz, hP, hKN, hD0⟩ := hv
  have hK := hKN.1
  have hx := B.exec
  have hb := B.bytes
  have hr := B.returns
  have hts := fun (w : Cond) (h : w ∈ gt) => atoms_spec (ws := w_Mo_answer) B.pre w (List.mem_cons_of_mem _ h)
  have hown : s.vm.findClass R_Mo = some m.cls := findClass_of_methodNamed B.named
  have hlocks := B.notSynchronized
  subst hsz
  have hD := hD0.self (sz := s.heap.size)
  generalize hAe : va_A [(hm, .inr (3, [.int sc, .ref hw, .int (nI cn), .int (nI fu), .int lf, .int (bI dd), .int dn, .int rn, .int (bI tr), .int (nI lg), .ref he, .int me, .ref hd, .ref hen, .ref hnd]))] s.heap.size = A at hD ⊢
  have hA : ∀ q : Nat, s.heap.size ≤ q → A q := fun q h => by rw [← hAe]; exact Or.inr h
  have hS : va_S A s.heap s.heap [] := va_S.rf
  have hP : va_P (dC, dI) classes [(hm, .inr (3, [.int sc, .ref hw, .int (nI cn), .int (nI fu), .int lf, .int (bI dd), .int dn, .int rn, .int (bI tr), .int (nI lg), .ref he, .int me, .ref hd, .ref hen, .ref hnd]))] s.heap := hP
  clear hAe hD0
  have hl := lv_entry ([.ref hm, .int g]) (n := 2) (Nat.le_of_ble_eq_true rfl)
  rw [lg_entry_eq]
  generalize (lg_sl ([.ref hm, .int g]) ++ List.replicate (2 - (lg_sl ([.ref hm, .int g])).length) Slot.unset).toArray = ls at hl ⊢
  have hl : lv_has ls 2 [(0, .ref hm), (1, .int g)] := hl
  refine lv_aload_n hx hb d_Mo_answer_0 rfl (lv_at hl 0 rfl) ?_
  refine va_get (D := (dC, dI)) (ci := 3) (v := .int (bI dd)) (C := R_Mo) (T := F_Mo) (N := 15) hx hb hts in_Mo hown hK hP 0 rfl rfl 5 (by decide) (hts _ kw_444) (fun _ h9 => h9) rfl d_Mo_answer_1 ?_
  refine bz_ne (tgt := 9) hx hb d_Mo_answer_4 (by decide) (fun h_1 => ?_) (fun h_1 => ?_)
  · refine lv_aload_n hx hb d_Mo_answer_9 rfl (lv_at hl 0 rfl) ?_
    refine lv_iconst (v := (nI 0)) hx hb d_Mo_answer_10 (by decide) ?_
    refine va_put (D := (dC, dI)) (ci := 3) (v := .int (bI false)) (ty := .boolean) (C := R_Mo) (T := F_Mo) (N := 15) hx hb hts in_Mo t_Mo t_Mo_ok n_Mo hown hK hP hD hS 0 rfl rfl 5 (by decide) (hts _ kw_444) (fun _ h9 => h9) rfl (by decide +kernel) (bI_narrow _) (bI_fits _) (Nat.le_of_ble_eq_true rfl) d_Mo_answer_11 (fun H locs hP hD hS => ?_)
    have hP : va_P (dC, dI) classes [(hm, .inr (3, [.int sc, .ref hw, .int (nI cn), .int (nI fu), .int lf, .int (bI false), .int dn, .int rn, .int (bI tr), .int (nI lg), .ref he, .int me, .ref hd, .ref hen, .ref hnd]))] H := hP
    have hD : va_D A [(hm, .inr (3, [.int sc, .ref hw, .int (nI cn), .int (nI fu), .int lf, .int (bI false), .int dn, .int rn, .int (bI tr), .int (nI lg), .ref he, .int me, .ref hd, .ref hen, .ref hnd]))] := hD
    refine lv_aload_n hx hb d_Mo_answer_14 rfl (lv_at hl 0 rfl) ?_
    refine lv_iconst (v := (-1)) hx hb d_Mo_answer_15 (by decide) ?_
    refine va_put (D := (dC, dI)) (ci := 3) (v := .int (-1)) (ty := .int) (C := R_Mo) (T := F_Mo) (N := 15) hx hb hts in_Mo t_Mo t_Mo_ok n_Mo hown hK hP hD hS 0 rfl rfl 7 (by decide) (hts _ kw_446) (fun _ h9 => h9) rfl (by decide +kernel) rfl rfl (Nat.le_of_ble_eq_true rfl) d_Mo_answer_16 (fun H locs hP hD hS => ?_)
    have hP : va_P (dC, dI) classes [(hm, .inr (3, [.int sc, .ref hw, .int (nI cn), .int (nI fu), .int lf, .int (bI false), .int dn, .int (-1), .int (bI tr), .int (nI lg), .ref he, .int me, .ref hd, .ref hen, .ref hnd]))] H := hP
    have hD : va_D A [(hm, .inr (3, [.int sc, .ref hw, .int (nI cn), .int (nI fu), .int lf, .int (bI false), .int dn, .int (-1), .int (bI tr), .int (nI lg), .ref he, .int me, .ref hd, .ref hen, .ref hnd]))] := hD
    refine lv_aload_n hx hb d_Mo_answer_19 rfl (lv_at hl 0 rfl) ?_
    refine lv_iconst (v := (nI 0)) hx hb d_Mo_answer_20 (by decide) ?_
    refine va_put (D := (dC, dI)) (ci := 3) (v := .int (bI false)) (ty := .boolean) (C := R_Mo) (T := F_Mo) (N := 15) hx hb hts in_Mo t_Mo t_Mo_ok n_Mo hown hK hP hD hS 0 rfl rfl 8 (by decide) (hts _ kw_447) (fun _ h9 => h9) rfl (by decide +kernel) (bI_narrow _) (bI_fits _) (Nat.le_of_ble_eq_true rfl) d_Mo_answer_21 (fun H locs hP hD hS => ?_)
    have hP : va_P (dC, dI) classes [(hm, .inr (3, [.int sc, .ref hw, .int (nI cn), .int (nI fu), .int lf, .int (bI false), .int dn, .int (-1), .int (bI false), .int (nI lg), .ref he, .int me, .ref hd, .ref hen, .ref hnd]))] H := hP
    have hD : va_D A [(hm, .inr (3, [.int sc, .ref hw, .int (nI cn), .int (nI fu), .int lf, .int (bI false), .int dn, .int (-1), .int (bI false), .int (nI lg), .ref he, .int me, .ref hd, .ref hen, .ref hnd]))] := hD
    refine lv_aload_n hx hb d_Mo_answer_24 rfl (lv_at hl 0 rfl) ?_
    refine lv_iconst (v := (nI 0)) hx hb d_Mo_answer_25 (by decide) ?_
    refine va_put (D := (dC, dI)) (ci := 3) (v := .int (nI 0)) (ty := .int) (C := R_Mo) (T := F_Mo) (N := 15) hx hb hts in_Mo t_Mo t_Mo_ok n_Mo hown hK hP hD hS 0 rfl rfl 9 (by decide) (hts _ kw_448) (fun _ h9 => h9) rfl (by decide +kernel) rfl rfl (Nat.le_of_ble_eq_true rfl) d_Mo_answer_26 (fun H locs hP hD hS => ?_)
    have hP : va_P (dC, dI) classes [(hm, .inr (3, [.int sc, .ref hw, .int (nI cn), .int (nI fu), .int lf, .int (bI false), .int dn, .int (-1), .int (bI false), .int (nI 0), .ref he, .int me, .ref hd, .ref hen, .ref hnd]))] H := hP
    have hD : va_D A [(hm, .inr (3, [.int sc, .ref hw, .int (nI cn), .int (nI fu), .int lf, .int (bI false), .int dn, .int (-1), .int (bI false), .int (nI 0), .ref he, .int me, .ref hd, .ref hen, .ref hnd]))] := hD
    refine lv_aload_n hx hb d_Mo_answer_29 rfl (lv_at hl 0 rfl) ?_
    refine lv_iconst (v := (nI 0)) hx hb d_Mo_answer_30 (by decide) ?_
    refine va_put (D := (dC, dI)) (ci := 3) (v := .int (nI 0)) (ty := .int) (C := R_Mo) (T := F_Mo) (N := 15) hx hb hts in_Mo t_Mo t_Mo_ok n_Mo hown hK hP hD hS 0 rfl rfl 11 (by decide) (hts _ kw_450) (fun _ h9 => h9) rfl (by decide +kernel) rfl rfl (Nat.le_of_ble_eq_true rfl) d_Mo_answer_31 (fun H locs hP hD hS => ?_)
    have hP : va_P (dC, dI) classes [(hm, .inr (3, [.int sc, .ref hw, .int (nI cn), .int (nI fu), .int lf, .int (bI false), .int dn, .int (-1), .int (bI false), .int (nI 0), .ref he, .int (nI 0), .ref hd, .ref hen, .ref hnd]))] H := hP
    have hD : va_D A [(hm, .inr (3, [.int sc, .ref hw, .int (nI cn), .int (nI fu), .int lf, .int (bI false), .int dn, .int (-1), .int (bI false), .int (nI 0), .ref he, .int (nI 0), .ref hd, .ref hen, .ref hnd]))] := hD
    refine lv_iconst (v := (-1)) hx hb d_Mo_answer_34 (by decide) ?_
    exact W.iret (v := (-1)) hx hb hr (fun t ht hW => ⟨⟨(-1), (false, (-1), false, 0, (nI 0)), rfl, (by first | rfl | (simp only [answ, h_1]; done) | (simp only [answ, h_1]; rfl) | (simp [answ, h_1]; done)), by rw [ht]; exact hP, hD⟩, hS.F ht⟩) hS.2.2 d_Mo_answer_35
  · refine lv_iload_n hx hb d_Mo_answer_7 rfl (lv_at hl 1 rfl) ?_
    exact W.iret (v := g) hx hb hr (fun t ht hW => ⟨⟨g, (dd, rn, tr, lg, me), rfl, (by first | rfl | (simp only [answ, h_1]; done) | (simp only [answ, h_1]; rfl) | (simp [answ, h_1]; done)), by rw [ht]; exact hP, hD⟩, hS.F ht⟩) hS.2.2 d_Mo_answer_8
