set_option maxHeartbeats 4000000 in
set_option maxRecDepth 100000 in
theorem c_Mk_init (l : Launch) (dC : Nat → ClassId) (dI : Nat → Nat → Nat) (cI : ClassId) (hm : Nat) (sc : Int32)  (sz : Nat) : Met l y_Mk_init w_Mk_init ({ frames := 3, cells := 1, slots := 16, locals := 70 }) (va_Pc [.ref hm, .int sc] (fun U => U.heap.size = sz ∧ va_P (dC, dI) classes [(hm, .inr (1, [.int (nI 0), .null, .int (nI 0)]))] U.heap ∧ KN dC dI cI U ∧ va_D (fun _ => True) [(hm, .inr (1, [.int (nI 0), .null, .int (nI 0)]))])) (va_Qv (fun u : Nat × (Nat → Int32) => u.2 = mkN sc) (fun (u : Nat × (Nat → Int32)) t => va_P (dC, dI) classes [(hm, .inr (1, [.int sc, .ref u.1, .int (nI 0)])), (u.1, .inl (cI, 16, .inl u.2))] t.heap ∧ va_D (va_A [(hm, .inr (1, [.int (nI 0), .null, .int (nI 0)]))] sz) [(hm, .inr (1, [.int sc, .ref u.1, .int (nI 0)])), (u.1, .inl (cI, 16, .inl u.2))]) (va_A [(hm, .inr (1, [.int (nI 0), .null, .int (nI 0)]))] sz)) 1 16 (va_A [(hm, .inr (1, [.int (nI 0), .null, .int (nI 0)]))] sz) := by
  refine Met.ofW (cc := b_Mk_init) (maxL := 3) (ret := none) (by decide) rfl ?_
  intro p e s m args below meth c s₁ B hml hv
  obtain ⟨rfl, hsz, hP, hKN, hD0⟩ := hv
  have hK := hKN.1
  have hx := B.exec
  have hb := B.bytes
  have hr := B.returns
  have hts := fun (w : Cond) (h : w ∈ gt) => atoms_spec (ws := w_Mk_init) B.pre w (List.mem_cons_of_mem _ h)
  have hown : s.vm.findClass R_Mk = some m.cls := findClass_of_methodNamed B.named
  have hlocks := B.notSynchronized
  subst hsz
  have hD := hD0.self (sz := s.heap.size)
  generalize hAe : va_A [(hm, .inr (1, [.int (nI 0), .null, .int (nI 0)]))] s.heap.size = A at hD ⊢
  have hA : ∀ q : Nat, s.heap.size ≤ q → A q := fun q h => by rw [← hAe]; exact Or.inr h
  have hS : va_S A s.heap s.heap [] := va_S.rf
  have hP : va_P (dC, dI) classes [(hm, .inr (1, [.int (nI 0), .null, .int (nI 0)]))] s.heap := hP
  clear hAe hD0
  have hl := lv_entry ([.ref hm, .int sc]) (n := 3) (Nat.le_of_ble_eq_true rfl)
  rw [lg_entry_eq]
  generalize (lg_sl ([.ref hm, .int sc]) ++ List.replicate (3 - (lg_sl ([.ref hm, .int sc])).length) Slot.unset).toArray = ls at hl ⊢
  have hin : meth.name = "<init>" := (name_of_methodNamed B.named B.method).1
  have hl : lv_has ls 3 [(0, .ref hm), (1, .int sc)] := hl
  refine lv_aload_n hx hb d_Mk_init_0 rfl (lv_at hl 0 rfl) ?_
  refine W.objInit hx hb hown (hts _ kw_57) (hts _ kw_50) (hts _ kw_51) rfl (by rw [hml]; exact hl.1) rfl d_Mk_init_1 (Nat.le_of_ble_eq_true rfl) (Nat.le_of_ble_eq_true rfl) ?_
  refine W.eq (g2 := F0 m 4 ls []) rfl ?_
  refine lv_aload_n hx hb d_Mk_init_4 rfl (lv_at hl 0 rfl) ?_
  refine lv_iload_n hx hb d_Mk_init_5 rfl (lv_at hl 1 rfl) ?_
  refine va_putF (D := (dC, dI)) (ci := 1) (v := .int sc) (ty := .int) (C := R_Mk) (T := F_Mk) (N := 3) hx hb hts in_Mk t_Mk t_Mk_ok n_Mk hown hK hP hD hS 0 rfl rfl 0 (by decide) (hts _ kw_76) (fun _ h9 => h9) rfl hin rfl (by decide +kernel) rfl rfl (Nat.le_of_ble_eq_true rfl) d_Mk_init_6 (fun H locs hP hD hS => ?_)
  have hP : va_P (dC, dI) classes [(hm, .inr (1, [.int sc, .null, .int (nI 0)]))] H := hP
  have hD : va_D A [(hm, .inr (1, [.int sc, .null, .int (nI 0)]))] := hD
  refine lv_aload_n hx hb d_Mk_init_9 rfl (lv_at hl 0 rfl) ?_
  refine lv_bipush (v := (nI 16)) hx hb d_Mk_init_10 (by decide) ?_
  refine va_newa (atype := .int) (ty := .int) (N' := 16) (a0 := (16, .inl (fun _ => 0))) hx hb (hts _ kw_86) rfl hK hP hD hS hA (fun _ => rfl) (by decide) (by decide) (by decide) (Nat.le_of_ble_eq_true rfl) (Nat.le_of_ble_eq_true rfl) d_Mk_init_12 (fun q_1 cA H hK2 hP hD hS => ?_)
  have e9 := (arr_one hK2).symm
  subst e9
  clear hK2
  have hP : va_P (dC, dI) classes [(hm, .inr (1, [.int sc, .null, .int (nI 0)])), (q_1, .inl (cI, 16, .inl (fun _ => 0)))] H := hP
  have hD : va_D A [(hm, .inr (1, [.int sc, .null, .int (nI 0)])), (q_1, .inl (cI, 16, .inl (fun _ => 0)))] := hD
  refine W.widen (k := 1) (n := 16) (by decide) (by decide) ?_
  refine va_putF (D := (dC, dI)) (ci := 1) (v := .ref q_1) (ty := (.array .int)) (C := R_Mk) (T := F_Mk) (N := 3) hx hb hts in_Mk t_Mk t_Mk_ok n_Mk hown hK hP hD hS 0 rfl rfl 1 (by decide) (hts _ kw_77) (fun _ h9 => h9) rfl hin rfl (by decide +kernel) rfl rfl (Nat.le_of_ble_eq_true rfl) d_Mk_init_14 (fun H locs hP hD hS => ?_)
  have hP : va_P (dC, dI) classes [(hm, .inr (1, [.int sc, .ref q_1, .int (nI 0)])), (q_1, .inl (cI, 16, .inl (fun _ => 0)))] H := hP
  have hD : va_D A [(hm, .inr (1, [.int sc, .ref q_1, .int (nI 0)])), (q_1, .inl (cI, 16, .inl (fun _ => 0)))] := hD
  refine lv_aload_n hx hb d_Mk_init_17 rfl (lv_at hl 0 rfl) ?_
  refine lv_iconst (v := (nI 0)) hx hb d_Mk_init_18 (by decide) ?_
  refine va_put (D := (dC, dI)) (ci := 1) (v := .int (nI 0)) (ty := .int) (C := R_Mk) (T := F_Mk) (N := 3) hx hb hts in_Mk t_Mk t_Mk_ok n_Mk hown hK hP hD hS 0 rfl rfl 2 (by decide) (hts _ kw_78) (fun _ h9 => h9) rfl (by decide +kernel) rfl rfl (Nat.le_of_ble_eq_true rfl) d_Mk_init_19 (fun H locs hP hD hS => ?_)
  have hP : va_P (dC, dI) classes [(hm, .inr (1, [.int sc, .ref q_1, .int (nI 0)])), (q_1, .inl (cI, 16, .inl (fun _ => 0)))] H := hP
  have hD : va_D A [(hm, .inr (1, [.int sc, .ref q_1, .int (nI 0)])), (q_1, .inl (cI, 16, .inl (fun _ => 0)))] := hD
  refine lv_iconst (v := (nI 0)) hx hb d_Mk_init_22 (by decide) ?_
  refine lv_istore_n (lv' := [(2, .int (nI 0)), (0, .ref hm), (1, .int sc)]) hx hb d_Mk_init_23 rfl hl (by decide) rfl (fun ls hl => ?_)
  refine lv_iload_n hx hb d_Mk_init_24 rfl (lv_at hl 0 rfl) ?_
  refine lv_bipush (v := (nI 8)) hx hb d_Mk_init_25 (by decide) ?_
  refine nb_ge (tgt := 50) hx hb d_Mk_init_27 (by decide) (by decide) (by decide) (fun h_2 => ?_) (fun h_2 => ?_)
  · exact absurd h_2 (by decide)
  · refine lv_aload_n hx hb d_Mk_init_30 rfl (lv_at hl 1 rfl) ?_
    refine va_get (D := (dC, dI)) (ci := 1) (v := .ref q_1) (C := R_Mk) (T := F_Mk) (N := 3) hx hb hts in_Mk hown hK hP 0 rfl rfl 1 (by decide) (hts _ kw_77) (fun _ h9 => h9) rfl d_Mk_init_31 ?_
    refine lv_bipush (v := (nI 8)) hx hb d_Mk_init_34 (by decide) ?_
    refine lv_iload_n hx hb d_Mk_init_36 rfl (lv_at hl 0 rfl) ?_
    refine lv_iadd hx hb d_Mk_init_37 ?_
    refine tp (y := (nI 8)) (by decide) ?_
    refine lv_iload_n hx hb d_Mk_init_38 rfl (lv_at hl 2 rfl) ?_
    refine lv_iload_n hx hb d_Mk_init_39 rfl (lv_at hl 0 rfl) ?_
    refine pr_call (va_runS (As := [.int sc, .int (nI 0)]) (rest := [.int (nI 8), .ref q_1]) ⟨hx, hb, hml, hown, hts⟩ (c_Mk_leaf l dC dI cI (sc := sc) (q := 0) ) ⟨callB_of 2 hts (gd kw_60) rfl rfl rfl (hts _ kw_36) (hts _ kw_58) (by decide +kernel) ⟨Nat.le_of_ble_eq_true rfl, Nat.le_of_ble_eq_true rfl⟩, (hts _ kw_59)⟩ ⟨fun a U g mk q => by obtain ⟨q0, qP, qK⟩ := q; exact ⟨q0, qP, qK.call⟩, fun U hU hW => ⟨rfl, by rw [hU]; exact hP.sub [] rfl, hKN.warm hW⟩⟩ rfl rfl hl.1 rfl (lv_room (Nat.le_of_ble_eq_true rfl)) d_Mk_init_40 ⟨Nat.le_of_ble_eq_true rfl, Nat.le_of_ble_eq_true rfl⟩) ?_
    refine ar_st (k := 8) hx hb hK hP hD hS 1 0 rfl rfl (by omega) (by first | decide | omega) d_Mk_init_43 (fun H locs hP hD hS => ?_)
    have hP : va_P (dC, dI) classes [(hm, .inr (1, [.int sc, .ref q_1, .int (nI 0)])), (q_1, .inl (cI, 16, .inl (upd (fun _ => 0) 8 (mkLeaf sc 0))))] H := hP
    have hD : va_D A [(hm, .inr (1, [.int sc, .ref q_1, .int (nI 0)])), (q_1, .inl (cI, 16, .inl (upd (fun _ => 0) 8 (mkLeaf sc 0))))] := hD
    refine lv_iinc (k := 0) (v := (nI 1)) (lv' := [(2, .int (nI 1)), (0, .ref hm), (1, .int sc)]) hx hb d_Mk_init_44 hl rfl (by decide) (by decide) rfl (fun ls hl => ?_)
    refine lv_goto (tgt := 24) hx hb d_Mk_init_47 (by decide) ?_
    refine lv_iload_n hx hb d_Mk_init_24 rfl (lv_at hl 0 rfl) ?_
    refine lv_bipush (v := (nI 8)) hx hb d_Mk_init_25 (by decide) ?_
    refine nb_ge (tgt := 50) hx hb d_Mk_init_27 (by decide) (by decide) (by decide) (fun h_3 => ?_) (fun h_3 => ?_)
    · exact absurd h_3 (by decide)
    · refine lv_aload_n hx hb d_Mk_init_30 rfl (lv_at hl 1 rfl) ?_
      refine va_get (D := (dC, dI)) (ci := 1) (v := .ref q_1) (C := R_Mk) (T := F_Mk) (N := 3) hx hb hts in_Mk hown hK hP 0 rfl rfl 1 (by decide) (hts _ kw_77) (fun _ h9 => h9) rfl d_Mk_init_31 ?_
      refine lv_bipush (v := (nI 8)) hx hb d_Mk_init_34 (by decide) ?_
      refine lv_iload_n hx hb d_Mk_init_36 rfl (lv_at hl 0 rfl) ?_
      refine lv_iadd hx hb d_Mk_init_37 ?_
      refine tp (y := (nI 9)) (by decide) ?_
      refine lv_iload_n hx hb d_Mk_init_38 rfl (lv_at hl 2 rfl) ?_
      refine lv_iload_n hx hb d_Mk_init_39 rfl (lv_at hl 0 rfl) ?_
      refine pr_call (va_runS (As := [.int sc, .int (nI 1)]) (rest := [.int (nI 9), .ref q_1]) ⟨hx, hb, hml, hown, hts⟩ (c_Mk_leaf l dC dI cI (sc := sc) (q := 1) ) ⟨callB_of 2 hts (gd kw_60) rfl rfl rfl (hts _ kw_36) (hts _ kw_58) (by decide +kernel) ⟨Nat.le_of_ble_eq_true rfl, Nat.le_of_ble_eq_true rfl⟩, (hts _ kw_59)⟩ ⟨fun a U g mk q => by obtain ⟨q0, qP, qK⟩ := q; exact ⟨q0, qP, qK.call⟩, fun U hU hW => ⟨rfl, by rw [hU]; exact hP.sub [] rfl, hKN.warm hW⟩⟩ rfl rfl hl.1 rfl (lv_room (Nat.le_of_ble_eq_true rfl)) d_Mk_init_40 ⟨Nat.le_of_ble_eq_true rfl, Nat.le_of_ble_eq_true rfl⟩) ?_
      refine ar_st (k := 9) hx hb hK hP hD hS 1 0 rfl rfl (by omega) (by first | decide | omega) d_Mk_init_43 (fun H locs hP hD hS => ?_)
      have hP : va_P (dC, dI) classes [(hm, .inr (1, [.int sc, .ref q_1, .int (nI 0)])), (q_1, .inl (cI, 16, .inl (upd (upd (fun _ => 0) 8 (mkLeaf sc 0)) 9 (mkLeaf sc 1))))] H := hP
      have hD : va_D A [(hm, .inr (1, [.int sc, .ref q_1, .int (nI 0)])), (q_1, .inl (cI, 16, .inl (upd (upd (fun _ => 0) 8 (mkLeaf sc 0)) 9 (mkLeaf sc 1))))] := hD
      refine lv_iinc (k := 0) (v := (nI 2)) (lv' := [(2, .int (nI 2)), (0, .ref hm), (1, .int sc)]) hx hb d_Mk_init_44 hl rfl (by decide) (by decide) rfl (fun ls hl => ?_)
      refine lv_goto (tgt := 24) hx hb d_Mk_init_47 (by decide) ?_
      refine lv_iload_n hx hb d_Mk_init_24 rfl (lv_at hl 0 rfl) ?_
      refine lv_bipush (v := (nI 8)) hx hb d_Mk_init_25 (by decide) ?_
      refine nb_ge (tgt := 50) hx hb d_Mk_init_27 (by decide) (by decide) (by decide) (fun h_4 => ?_) (fun h_4 => ?_)
      · exact absurd h_4 (by decide)
      · refine lv_aload_n hx hb d_Mk_init_30 rfl (lv_at hl 1 rfl) ?_
        refine va_get (D := (dC, dI)) (ci := 1) (v := .ref q_1) (C := R_Mk) (T := F_Mk) (N := 3) hx hb hts in_Mk hown hK hP 0 rfl rfl 1 (by decide) (hts _ kw_77) (fun _ h9 => h9) rfl d_Mk_init_31 ?_
        refine lv_bipush (v := (nI 8)) hx hb d_Mk_init_34 (by decide) ?_
        refine lv_iload_n hx hb d_Mk_init_36 rfl (lv_at hl 0 rfl) ?_
        refine lv_iadd hx hb d_Mk_init_37 ?_
        refine tp (y := (nI 10)) (by decide) ?_
        refine lv_iload_n hx hb d_Mk_init_38 rfl (lv_at hl 2 rfl) ?_
        refine lv_iload_n hx hb d_Mk_init_39 rfl (lv_at hl 0 rfl) ?_
        refine pr_call (va_runS (As := [.int sc, .int (nI 2)]) (rest := [.int (nI 10), .ref q_1]) ⟨hx, hb, hml, hown, hts⟩ (c_Mk_leaf l dC dI cI (sc := sc) (q := 2) ) ⟨callB_of 2 hts (gd kw_60) rfl rfl rfl (hts _ kw_36) (hts _ kw_58) (by decide +kernel) ⟨Nat.le_of_ble_eq_true rfl, Nat.le_of_ble_eq_true rfl⟩, (hts _ kw_59)⟩ ⟨fun a U g mk q => by obtain ⟨q0, qP, qK⟩ := q; exact ⟨q0, qP, qK.call⟩, fun U hU hW => ⟨rfl, by rw [hU]; exact hP.sub [] rfl, hKN.warm hW⟩⟩ rfl rfl hl.1 rfl (lv_room (Nat.le_of_ble_eq_true rfl)) d_Mk_init_40 ⟨Nat.le_of_ble_eq_true rfl, Nat.le_of_ble_eq_true rfl⟩) ?_
        refine ar_st (k := 10) hx hb hK hP hD hS 1 0 rfl rfl (by omega) (by first | decide | omega) d_Mk_init_43 (fun H locs hP hD hS => ?_)
        have hP : va_P (dC, dI) classes [(hm, .inr (1, [.int sc, .ref q_1, .int (nI 0)])), (q_1, .inl (cI, 16, .inl (upd (upd (upd (fun _ => 0) 8 (mkLeaf sc 0)) 9 (mkLeaf sc 1)) 10 (mkLeaf sc 2))))] H := hP
        have hD : va_D A [(hm, .inr (1, [.int sc, .ref q_1, .int (nI 0)])), (q_1, .inl (cI, 16, .inl (upd (upd (upd (fun _ => 0) 8 (mkLeaf sc 0)) 9 (mkLeaf sc 1)) 10 (mkLeaf sc 2))))] := hD
        refine lv_iinc (k := 0) (v := (nI 3)) (lv' := [(2, .int (nI 3)), (0, .ref hm), (1, .int sc)]) hx hb d_Mk_init_44 hl rfl (by decide) (by decide) rfl (fun ls hl => ?_)
        refine lv_goto (tgt := 24) hx hb d_Mk_init_47 (by decide) ?_
        refine lv_iload_n hx hb d_Mk_init_24 rfl (lv_at hl 0 rfl) ?_
        refine lv_bipush (v := (nI 8)) hx hb d_Mk_init_25 (by decide) ?_
        refine nb_ge (tgt := 50) hx hb d_Mk_init_27 (by decide) (by decide) (by decide) (fun h_5 => ?_) (fun h_5 => ?_)
        · exact absurd h_5 (by decide)
        · refine lv_aload_n hx hb d_Mk_init_30 rfl (lv_at hl 1 rfl) ?_
          refine va_get (D := (dC, dI)) (ci := 1) (v := .ref q_1) (C := R_Mk) (T := F_Mk) (N := 3) hx hb hts in_Mk hown hK hP 0 rfl rfl 1 (by decide) (hts _ kw_77) (fun _ h9 => h9) rfl d_Mk_init_31 ?_
          refine lv_bipush (v := (nI 8)) hx hb d_Mk_init_34 (by decide) ?_
          refine lv_iload_n hx hb d_Mk_init_36 rfl (lv_at hl 0 rfl) ?_
          refine lv_iadd hx hb d_Mk_init_37 ?_
          refine tp (y := (nI 11)) (by decide) ?_
          refine lv_iload_n hx hb d_Mk_init_38 rfl (lv_at hl 2 rfl) ?_
          refine lv_iload_n hx hb d_Mk_init_39 rfl (lv_at hl 0 rfl) ?_
          refine pr_call (va_runS (As := [.int sc, .int (nI 3)]) (rest := [.int (nI 11), .ref q_1]) ⟨hx, hb, hml, hown, hts⟩ (c_Mk_leaf l dC dI cI (sc := sc) (q := 3) ) ⟨callB_of 2 hts (gd kw_60) rfl rfl rfl (hts _ kw_36) (hts _ kw_58) (by decide +kernel) ⟨Nat.le_of_ble_eq_true rfl, Nat.le_of_ble_eq_true rfl⟩, (hts _ kw_59)⟩ ⟨fun a U g mk q => by obtain ⟨q0, qP, qK⟩ := q; exact ⟨q0, qP, qK.call⟩, fun U hU hW => ⟨rfl, by rw [hU]; exact hP.sub [] rfl, hKN.warm hW⟩⟩ rfl rfl hl.1 rfl (lv_room (Nat.le_of_ble_eq_true rfl)) d_Mk_init_40 ⟨Nat.le_of_ble_eq_true rfl, Nat.le_of_ble_eq_true rfl⟩) ?_
          refine ar_st (k := 11) hx hb hK hP hD hS 1 0 rfl rfl (by omega) (by first | decide | omega) d_Mk_init_43 (fun H locs hP hD hS => ?_)
          have hP : va_P (dC, dI) classes [(hm, .inr (1, [.int sc, .ref q_1, .int (nI 0)])), (q_1, .inl (cI, 16, .inl (upd (upd (upd (upd (fun _ => 0) 8 (mkLeaf sc 0)) 9 (mkLeaf sc 1)) 10 (mkLeaf sc 2)) 11 (mkLeaf sc 3))))] H := hP
          have hD : va_D A [(hm, .inr (1, [.int sc, .ref q_1, .int (nI 0)])), (q_1, .inl (cI, 16, .inl (upd (upd (upd (upd (fun _ => 0) 8 (mkLeaf sc 0)) 9 (mkLeaf sc 1)) 10 (mkLeaf sc 2)) 11 (mkLeaf sc 3))))] := hD
          refine lv_iinc (k := 0) (v := (nI 4)) (lv' := [(2, .int (nI 4)), (0, .ref hm), (1, .int sc)]) hx hb d_Mk_init_44 hl rfl (by decide) (by decide) rfl (fun ls hl => ?_)
          refine lv_goto (tgt := 24) hx hb d_Mk_init_47 (by decide) ?_
          refine lv_iload_n hx hb d_Mk_init_24 rfl (lv_at hl 0 rfl) ?_
          refine lv_bipush (v := (nI 8)) hx hb d_Mk_init_25 (by decide) ?_
          refine nb_ge (tgt := 50) hx hb d_Mk_init_27 (by decide) (by decide) (by decide) (fun h_6 => ?_) (fun h_6 => ?_)
          · exact absurd h_6 (by decide)
          · refine lv_aload_n hx hb d_Mk_init_30 rfl (lv_at hl 1 rfl) ?_
            refine va_get (D := (dC, dI)) (ci := 1) (v := .ref q_1) (C := R_Mk) (T := F_Mk) (N := 3) hx hb hts in_Mk hown hK hP 0 rfl rfl 1 (by decide) (hts _ kw_77) (fun _ h9 => h9) rfl d_Mk_init_31 ?_
            refine lv_bipush (v := (nI 8)) hx hb d_Mk_init_34 (by decide) ?_
            refine lv_iload_n hx hb d_Mk_init_36 rfl (lv_at hl 0 rfl) ?_
            refine lv_iadd hx hb d_Mk_init_37 ?_
            refine tp (y := (nI 12)) (by decide) ?_
            refine lv_iload_n hx hb d_Mk_init_38 rfl (lv_at hl 2 rfl) ?_
            refine lv_iload_n hx hb d_Mk_init_39 rfl (lv_at hl 0 rfl) ?_
            refine pr_call (va_runS (As := [.int sc, .int (nI 4)]) (rest := [.int (nI 12), .ref q_1]) ⟨hx, hb, hml, hown, hts⟩ (c_Mk_leaf l dC dI cI (sc := sc) (q := 4) ) ⟨callB_of 2 hts (gd kw_60) rfl rfl rfl (hts _ kw_36) (hts _ kw_58) (by decide +kernel) ⟨Nat.le_of_ble_eq_true rfl, Nat.le_of_ble_eq_true rfl⟩, (hts _ kw_59)⟩ ⟨fun a U g mk q => by obtain ⟨q0, qP, qK⟩ := q; exact ⟨q0, qP, qK.call⟩, fun U hU hW => ⟨rfl, by rw [hU]; exact hP.sub [] rfl, hKN.warm hW⟩⟩ rfl rfl hl.1 rfl (lv_room (Nat.le_of_ble_eq_true rfl)) d_Mk_init_40 ⟨Nat.le_of_ble_eq_true rfl, Nat.le_of_ble_eq_true rfl⟩) ?_
            refine ar_st (k := 12) hx hb hK hP hD hS 1 0 rfl rfl (by omega) (by first | decide | omega) d_Mk_init_43 (fun H locs hP hD hS => ?_)
            have hP : va_P (dC, dI) classes [(hm, .inr (1, [.int sc, .ref q_1, .int (nI 0)])), (q_1, .inl (cI, 16, .inl (upd (upd (upd (upd (upd (fun _ => 0) 8 (mkLeaf sc 0)) 9 (mkLeaf sc 1)) 10 (mkLeaf sc 2)) 11 (mkLeaf sc 3)) 12 (mkLeaf sc 4))))] H := hP
            have hD : va_D A [(hm, .inr (1, [.int sc, .ref q_1, .int (nI 0)])), (q_1, .inl (cI, 16, .inl (upd (upd (upd (upd (upd (fun _ => 0) 8 (mkLeaf sc 0)) 9 (mkLeaf sc 1)) 10 (mkLeaf sc 2)) 11 (mkLeaf sc 3)) 12 (mkLeaf sc 4))))] := hD
            refine lv_iinc (k := 0) (v := (nI 5)) (lv' := [(2, .int (nI 5)), (0, .ref hm), (1, .int sc)]) hx hb d_Mk_init_44 hl rfl (by decide) (by decide) rfl (fun ls hl => ?_)
            refine lv_goto (tgt := 24) hx hb d_Mk_init_47 (by decide) ?_
            refine lv_iload_n hx hb d_Mk_init_24 rfl (lv_at hl 0 rfl) ?_
            refine lv_bipush (v := (nI 8)) hx hb d_Mk_init_25 (by decide) ?_
            refine nb_ge (tgt := 50) hx hb d_Mk_init_27 (by decide) (by decide) (by decide) (fun h_7 => ?_) (fun h_7 => ?_)
            · exact absurd h_7 (by decide)
            · refine lv_aload_n hx hb d_Mk_init_30 rfl (lv_at hl 1 rfl) ?_
              refine va_get (D := (dC, dI)) (ci := 1) (v := .ref q_1) (C := R_Mk) (T := F_Mk) (N := 3) hx hb hts in_Mk hown hK hP 0 rfl rfl 1 (by decide) (hts _ kw_77) (fun _ h9 => h9) rfl d_Mk_init_31 ?_
              refine lv_bipush (v := (nI 8)) hx hb d_Mk_init_34 (by decide) ?_
              refine lv_iload_n hx hb d_Mk_init_36 rfl (lv_at hl 0 rfl) ?_
              refine lv_iadd hx hb d_Mk_init_37 ?_
              refine tp (y := (nI 13)) (by decide) ?_
              refine lv_iload_n hx hb d_Mk_init_38 rfl (lv_at hl 2 rfl) ?_
              refine lv_iload_n hx hb d_Mk_init_39 rfl (lv_at hl 0 rfl) ?_
              refine pr_call (va_runS (As := [.int sc, .int (nI 5)]) (rest := [.int (nI 13), .ref q_1]) ⟨hx, hb, hml, hown, hts⟩ (c_Mk_leaf l dC dI cI (sc := sc) (q := 5) ) ⟨callB_of 2 hts (gd kw_60) rfl rfl rfl (hts _ kw_36) (hts _ kw_58) (by decide +kernel) ⟨Nat.le_of_ble_eq_true rfl, Nat.le_of_ble_eq_true rfl⟩, (hts _ kw_59)⟩ ⟨fun a U g mk q => by obtain ⟨q0, qP, qK⟩ := q; exact ⟨q0, qP, qK.call⟩, fun U hU hW => ⟨rfl, by rw [hU]; exact hP.sub [] rfl, hKN.warm hW⟩⟩ rfl rfl hl.1 rfl (lv_room (Nat.le_of_ble_eq_true rfl)) d_Mk_init_40 ⟨Nat.le_of_ble_eq_true rfl, Nat.le_of_ble_eq_true rfl⟩) ?_
              refine ar_st (k := 13) hx hb hK hP hD hS 1 0 rfl rfl (by omega) (by first | decide | omega) d_Mk_init_43 (fun H locs hP hD hS => ?_)
              have hP : va_P (dC, dI) classes [(hm, .inr (1, [.int sc, .ref q_1, .int (nI 0)])), (q_1, .inl (cI, 16, .inl (upd (upd (upd (upd (upd (upd (fun _ => 0) 8 (mkLeaf sc 0)) 9 (mkLeaf sc 1)) 10 (mkLeaf sc 2)) 11 (mkLeaf sc 3)) 12 (mkLeaf sc 4)) 13 (mkLeaf sc 5))))] H := hP
              have hD : va_D A [(hm, .inr (1, [.int sc, .ref q_1, .int (nI 0)])), (q_1, .inl (cI, 16, .inl (upd (upd (upd (upd (upd (upd (fun _ => 0) 8 (mkLeaf sc 0)) 9 (mkLeaf sc 1)) 10 (mkLeaf sc 2)) 11 (mkLeaf sc 3)) 12 (mkLeaf sc 4)) 13 (mkLeaf sc 5))))] := hD
              refine lv_iinc (k := 0) (v := (nI 6)) (lv' := [(2, .int (nI 6)), (0, .ref hm), (1, .int sc)]) hx hb d_Mk_init_44 hl rfl (by decide) (by decide) rfl (fun ls hl => ?_)
              refine lv_goto (tgt := 24) hx hb d_Mk_init_47 (by decide) ?_
              refine lv_iload_n hx hb d_Mk_init_24 rfl (lv_at hl 0 rfl) ?_
              refine lv_bipush (v := (nI 8)) hx hb d_Mk_init_25 (by decide) ?_
              refine nb_ge (tgt := 50) hx hb d_Mk_init_27 (by decide) (by decide) (by decide) (fun h_8 => ?_) (fun h_8 => ?_)
              · exact absurd h_8 (by decide)
              · refine lv_aload_n hx hb d_Mk_init_30 rfl (lv_at hl 1 rfl) ?_
                refine va_get (D := (dC, dI)) (ci := 1) (v := .ref q_1) (C := R_Mk) (T := F_Mk) (N := 3) hx hb hts in_Mk hown hK hP 0 rfl rfl 1 (by decide) (hts _ kw_77) (fun _ h9 => h9) rfl d_Mk_init_31 ?_
                refine lv_bipush (v := (nI 8)) hx hb d_Mk_init_34 (by decide) ?_
                refine lv_iload_n hx hb d_Mk_init_36 rfl (lv_at hl 0 rfl) ?_
                refine lv_iadd hx hb d_Mk_init_37 ?_
                refine tp (y := (nI 14)) (by decide) ?_
                refine lv_iload_n hx hb d_Mk_init_38 rfl (lv_at hl 2 rfl) ?_
                refine lv_iload_n hx hb d_Mk_init_39 rfl (lv_at hl 0 rfl) ?_
                refine pr_call (va_runS (As := [.int sc, .int (nI 6)]) (rest := [.int (nI 14), .ref q_1]) ⟨hx, hb, hml, hown, hts⟩ (c_Mk_leaf l dC dI cI (sc := sc) (q := 6) ) ⟨callB_of 2 hts (gd kw_60) rfl rfl rfl (hts _ kw_36) (hts _ kw_58) (by decide +kernel) ⟨Nat.le_of_ble_eq_true rfl, Nat.le_of_ble_eq_true rfl⟩, (hts _ kw_59)⟩ ⟨fun a U g mk q => by obtain ⟨q0, qP, qK⟩ := q; exact ⟨q0, qP, qK.call⟩, fun U hU hW => ⟨rfl, by rw [hU]; exact hP.sub [] rfl, hKN.warm hW⟩⟩ rfl rfl hl.1 rfl (lv_room (Nat.le_of_ble_eq_true rfl)) d_Mk_init_40 ⟨Nat.le_of_ble_eq_true rfl, Nat.le_of_ble_eq_true rfl⟩) ?_
                refine ar_st (k := 14) hx hb hK hP hD hS 1 0 rfl rfl (by omega) (by first | decide | omega) d_Mk_init_43 (fun H locs hP hD hS => ?_)
                have hP : va_P (dC, dI) classes [(hm, .inr (1, [.int sc, .ref q_1, .int (nI 0)])), (q_1, .inl (cI, 16, .inl (upd (upd (upd (upd (upd (upd (upd (fun _ => 0) 8 (mkLeaf sc 0)) 9 (mkLeaf sc 1)) 10 (mkLeaf sc 2)) 11 (mkLeaf sc 3)) 12 (mkLeaf sc 4)) 13 (mkLeaf sc 5)) 14 (mkLeaf sc 6))))] H := hP
                have hD : va_D A [(hm, .inr (1, [.int sc, .ref q_1, .int (nI 0)])), (q_1, .inl (cI, 16, .inl (upd (upd (upd (upd (upd (upd (upd (fun _ => 0) 8 (mkLeaf sc 0)) 9 (mkLeaf sc 1)) 10 (mkLeaf sc 2)) 11 (mkLeaf sc 3)) 12 (mkLeaf sc 4)) 13 (mkLeaf sc 5)) 14 (mkLeaf sc 6))))] := hD
                refine lv_iinc (k := 0) (v := (nI 7)) (lv' := [(2, .int (nI 7)), (0, .ref hm), (1, .int sc)]) hx hb d_Mk_init_44 hl rfl (by decide) (by decide) rfl (fun ls hl => ?_)
                refine lv_goto (tgt := 24) hx hb d_Mk_init_47 (by decide) ?_
                refine lv_iload_n hx hb d_Mk_init_24 rfl (lv_at hl 0 rfl) ?_
                refine lv_bipush (v := (nI 8)) hx hb d_Mk_init_25 (by decide) ?_
                refine nb_ge (tgt := 50) hx hb d_Mk_init_27 (by decide) (by decide) (by decide) (fun h_9 => ?_) (fun h_9 => ?_)
                · exact absurd h_9 (by decide)
                · refine lv_aload_n hx hb d_Mk_init_30 rfl (lv_at hl 1 rfl) ?_
                  refine va_get (D := (dC, dI)) (ci := 1) (v := .ref q_1) (C := R_Mk) (T := F_Mk) (N := 3) hx hb hts in_Mk hown hK hP 0 rfl rfl 1 (by decide) (hts _ kw_77) (fun _ h9 => h9) rfl d_Mk_init_31 ?_
                  refine lv_bipush (v := (nI 8)) hx hb d_Mk_init_34 (by decide) ?_
                  refine lv_iload_n hx hb d_Mk_init_36 rfl (lv_at hl 0 rfl) ?_
                  refine lv_iadd hx hb d_Mk_init_37 ?_
                  refine tp (y := (nI 15)) (by decide) ?_
                  refine lv_iload_n hx hb d_Mk_init_38 rfl (lv_at hl 2 rfl) ?_
                  refine lv_iload_n hx hb d_Mk_init_39 rfl (lv_at hl 0 rfl) ?_
                  refine pr_call (va_runS (As := [.int sc, .int (nI 7)]) (rest := [.int (nI 15), .ref q_1]) ⟨hx, hb, hml, hown, hts⟩ (c_Mk_leaf l dC dI cI (sc := sc) (q := 7) ) ⟨callB_of 2 hts (gd kw_60) rfl rfl rfl (hts _ kw_36) (hts _ kw_58) (by decide +kernel) ⟨Nat.le_of_ble_eq_true rfl, Nat.le_of_ble_eq_true rfl⟩, (hts _ kw_59)⟩ ⟨fun a U g mk q => by obtain ⟨q0, qP, qK⟩ := q; exact ⟨q0, qP, qK.call⟩, fun U hU hW => ⟨rfl, by rw [hU]; exact hP.sub [] rfl, hKN.warm hW⟩⟩ rfl rfl hl.1 rfl (lv_room (Nat.le_of_ble_eq_true rfl)) d_Mk_init_40 ⟨Nat.le_of_ble_eq_true rfl, Nat.le_of_ble_eq_true rfl⟩) ?_
                  refine ar_st (k := 15) hx hb hK hP hD hS 1 0 rfl rfl (by omega) (by first | decide | omega) d_Mk_init_43 (fun H locs hP hD hS => ?_)
                  have hP : va_P (dC, dI) classes [(hm, .inr (1, [.int sc, .ref q_1, .int (nI 0)])), (q_1, .inl (cI, 16, .inl (upd (upd (upd (upd (upd (upd (upd (upd (fun _ => 0) 8 (mkLeaf sc 0)) 9 (mkLeaf sc 1)) 10 (mkLeaf sc 2)) 11 (mkLeaf sc 3)) 12 (mkLeaf sc 4)) 13 (mkLeaf sc 5)) 14 (mkLeaf sc 6)) 15 (mkLeaf sc 7))))] H := hP
                  have hD : va_D A [(hm, .inr (1, [.int sc, .ref q_1, .int (nI 0)])), (q_1, .inl (cI, 16, .inl (upd (upd (upd (upd (upd (upd (upd (upd (fun _ => 0) 8 (mkLeaf sc 0)) 9 (mkLeaf sc 1)) 10 (mkLeaf sc 2)) 11 (mkLeaf sc 3)) 12 (mkLeaf sc 4)) 13 (mkLeaf sc 5)) 14 (mkLeaf sc 6)) 15 (mkLeaf sc 7))))] := hD
                  refine lv_iinc (k := 0) (v := (nI 8)) (lv' := [(2, .int (nI 8)), (0, .ref hm), (1, .int sc)]) hx hb d_Mk_init_44 hl rfl (by decide) (by decide) rfl (fun ls hl => ?_)
                  refine lv_goto (tgt := 24) hx hb d_Mk_init_47 (by decide) ?_
                  refine lv_iload_n hx hb d_Mk_init_24 rfl (lv_at hl 0 rfl) ?_
                  refine lv_bipush (v := (nI 8)) hx hb d_Mk_init_25 (by decide) ?_
                  refine nb_ge (tgt := 50) hx hb d_Mk_init_27 (by decide) (by decide) (by decide) (fun h_10 => ?_) (fun h_10 => ?_)
                  · refine lv_bipush (v := (nI 7)) hx hb d_Mk_init_50 (by decide) ?_
                    refine lv_istore_n (lv' := [(2, .int (nI 7)), (0, .ref hm), (1, .int sc)]) hx hb d_Mk_init_52 rfl hl (by decide) rfl (fun ls hl => ?_)
                    refine lv_iload_n hx hb d_Mk_init_53 rfl (lv_at hl 0 rfl) ?_
                    refine lv_iconst (v := (nI 1)) hx hb d_Mk_init_54 (by decide) ?_
                    refine nb_lt (tgt := 92) hx hb d_Mk_init_55 (by decide) (by decide) (by decide) (fun h_11 => ?_) (fun h_11 => ?_)
                    · exact absurd h_11 (by decide)
                    · refine lv_aload_n hx hb d_Mk_init_58 rfl (lv_at hl 1 rfl) ?_
                      refine va_get (D := (dC, dI)) (ci := 1) (v := .ref q_1) (C := R_Mk) (T := F_Mk) (N := 3) hx hb hts in_Mk hown hK hP 0 rfl rfl 1 (by decide) (hts _ kw_77) (fun _ h9 => h9) rfl d_Mk_init_59 ?_
                      refine lv_iload_n hx hb d_Mk_init_62 rfl (lv_at hl 0 rfl) ?_
                      refine lv_aload_n hx hb d_Mk_init_63 rfl (lv_at hl 1 rfl) ?_
                      refine va_get (D := (dC, dI)) (ci := 1) (v := .ref q_1) (C := R_Mk) (T := F_Mk) (N := 3) hx hb hts in_Mk hown hK hP 0 rfl rfl 1 (by decide) (hts _ kw_77) (fun _ h9 => h9) rfl d_Mk_init_64 ?_
                      refine lv_iconst (v := (nI 2)) hx hb d_Mk_init_67 (by decide) ?_
                      refine lv_iload_n hx hb d_Mk_init_68 rfl (lv_at hl 0 rfl) ?_
                      refine lv_imul hx hb d_Mk_init_69 ?_
                      refine tp (y := (nI 14)) (by decide) ?_
                      refine ar_ld (k := 14) hx hb hK hP 1 0 rfl rfl (by omega) (by first | decide | omega) d_Mk_init_70 ?_
                      refine lv_aload_n hx hb d_Mk_init_71 rfl (lv_at hl 1 rfl) ?_
                      refine va_get (D := (dC, dI)) (ci := 1) (v := .ref q_1) (C := R_Mk) (T := F_Mk) (N := 3) hx hb hts in_Mk hown hK hP 0 rfl rfl 1 (by decide) (hts _ kw_77) (fun _ h9 => h9) rfl d_Mk_init_72 ?_
                      refine lv_iconst (v := (nI 2)) hx hb d_Mk_init_75 (by decide) ?_
                      refine lv_iload_n hx hb d_Mk_init_76 rfl (lv_at hl 0 rfl) ?_
                      refine lv_imul hx hb d_Mk_init_77 ?_
                      refine tp (y := (nI 14)) (by decide) ?_
                      refine lv_iconst (v := (nI 1)) hx hb d_Mk_init_78 (by decide) ?_
                      refine lv_iadd hx hb d_Mk_init_79 ?_
                      refine tp (y := (nI 15)) (by decide) ?_
                      refine ar_ld (k := 15) hx hb hK hP 1 0 rfl rfl (by omega) (by first | decide | omega) d_Mk_init_80 ?_
                      refine lv_iload_n hx hb d_Mk_init_81 rfl (lv_at hl 0 rfl) ?_
                      refine pr_call (va_runS (As := [.int ((upd (upd (upd (upd (upd (upd (upd (upd (fun _ => 0) 8 (mkLeaf sc 0)) 9 (mkLeaf sc 1)) 10 (mkLeaf sc 2)) 11 (mkLeaf sc 3)) 12 (mkLeaf sc 4)) 13 (mkLeaf sc 5)) 14 (mkLeaf sc 6)) 15 (mkLeaf sc 7)) 14), .int ((upd (upd (upd (upd (upd (upd (upd (upd (fun _ => 0) 8 (mkLeaf sc 0)) 9 (mkLeaf sc 1)) 10 (mkLeaf sc 2)) 11 (mkLeaf sc 3)) 12 (mkLeaf sc 4)) 13 (mkLeaf sc 5)) 14 (mkLeaf sc 6)) 15 (mkLeaf sc 7)) 15), .int (nI 7)]) (rest := [.int (nI 7), .ref q_1]) ⟨hx, hb, hml, hown, hts⟩ (c_Sg_above l dC dI cI (a := (upd (upd (upd (upd (upd (upd (upd (upd (fun _ => 0) 8 (mkLeaf sc 0)) 9 (mkLeaf sc 1)) 10 (mkLeaf sc 2)) 11 (mkLeaf sc 3)) 12 (mkLeaf sc 4)) 13 (mkLeaf sc 5)) 14 (mkLeaf sc 6)) 15 (mkLeaf sc 7)) 14) (b := (upd (upd (upd (upd (upd (upd (upd (upd (fun _ => 0) 8 (mkLeaf sc 0)) 9 (mkLeaf sc 1)) 10 (mkLeaf sc 2)) 11 (mkLeaf sc 3)) 12 (mkLeaf sc 4)) 13 (mkLeaf sc 5)) 14 (mkLeaf sc 6)) 15 (mkLeaf sc 7)) 15) (k := 7) ) ⟨callB_of 3 hts (gd kw_75) rfl rfl rfl (hts _ kw_37) (hts _ kw_73) (by decide +kernel) ⟨Nat.le_of_ble_eq_true rfl, Nat.le_of_ble_eq_true rfl⟩, (hts _ kw_74)⟩ ⟨fun a U g mk q => by obtain ⟨q0, qP, qK⟩ := q; exact ⟨q0, qP, qK.call⟩, fun U hU hW => ⟨rfl, by rw [hU]; exact hP.sub [] rfl, hKN.warm hW⟩⟩ rfl rfl hl.1 rfl (lv_room (Nat.le_of_ble_eq_true rfl)) d_Mk_init_82 ⟨Nat.le_of_ble_eq_true rfl, Nat.le_of_ble_eq_true rfl⟩) ?_
                      refine ar_st (k := 7) hx hb hK hP hD hS 1 0 rfl rfl (by omega) (by first | decide | omega) d_Mk_init_85 (fun H locs hP hD hS => ?_)
                      obtain ⟨f_12, e_12⟩ : ∃ z : Nat → Int32, z = tn (upd (upd (upd (upd (upd (upd (upd (upd (fun _ => 0) 8 (mkLeaf sc 0)) 9 (mkLeaf sc 1)) 10 (mkLeaf sc 2)) 11 (mkLeaf sc 3)) 12 (mkLeaf sc 4)) 13 (mkLeaf sc 5)) 14 (mkLeaf sc 6)) 15 (mkLeaf sc 7)) 7 := ⟨_, rfl⟩
                      have hP : va_P (dC, dI) classes [(hm, .inr (1, [.int sc, .ref q_1, .int (nI 0)])), (q_1, .inl (cI, 16, .inl f_12))] H := by rw [e_12]; exact hP
                      have hD : va_D A [(hm, .inr (1, [.int sc, .ref q_1, .int (nI 0)])), (q_1, .inl (cI, 16, .inl f_12))] := by rw [e_12]; exact hD
                      refine lv_iinc (k := 0) (v := (nI 6)) (lv' := [(2, .int (nI 6)), (0, .ref hm), (1, .int sc)]) hx hb d_Mk_init_86 hl rfl (by decide) (by decide) rfl (fun ls hl => ?_)
                      refine lv_goto (tgt := 53) hx hb d_Mk_init_89 (by decide) ?_
                      refine lv_iload_n hx hb d_Mk_init_53 rfl (lv_at hl 0 rfl) ?_
                      refine lv_iconst (v := (nI 1)) hx hb d_Mk_init_54 (by decide) ?_
                      refine nb_lt (tgt := 92) hx hb d_Mk_init_55 (by decide) (by decide) (by decide) (fun h_13 => ?_) (fun h_13 => ?_)
                      · exact absurd h_13 (by decide)
                      · refine lv_aload_n hx hb d_Mk_init_58 rfl (lv_at hl 1 rfl) ?_
                        refine va_get (D := (dC, dI)) (ci := 1) (v := .ref q_1) (C := R_Mk) (T := F_Mk) (N := 3) hx hb hts in_Mk hown hK hP 0 rfl rfl 1 (by decide) (hts _ kw_77) (fun _ h9 => h9) rfl d_Mk_init_59 ?_
                        refine lv_iload_n hx hb d_Mk_init_62 rfl (lv_at hl 0 rfl) ?_
                        refine lv_aload_n hx hb d_Mk_init_63 rfl (lv_at hl 1 rfl) ?_
                        refine va_get (D := (dC, dI)) (ci := 1) (v := .ref q_1) (C := R_Mk) (T := F_Mk) (N := 3) hx hb hts in_Mk hown hK hP 0 rfl rfl 1 (by decide) (hts _ kw_77) (fun _ h9 => h9) rfl d_Mk_init_64 ?_
                        refine lv_iconst (v := (nI 2)) hx hb d_Mk_init_67 (by decide) ?_
                        refine lv_iload_n hx hb d_Mk_init_68 rfl (lv_at hl 0 rfl) ?_
                        refine lv_imul hx hb d_Mk_init_69 ?_
                        refine tp (y := (nI 12)) (by decide) ?_
                        refine ar_ld (k := 12) hx hb hK hP 1 0 rfl rfl (by omega) (by first | decide | omega) d_Mk_init_70 ?_
                        refine lv_aload_n hx hb d_Mk_init_71 rfl (lv_at hl 1 rfl) ?_
                        refine va_get (D := (dC, dI)) (ci := 1) (v := .ref q_1) (C := R_Mk) (T := F_Mk) (N := 3) hx hb hts in_Mk hown hK hP 0 rfl rfl 1 (by decide) (hts _ kw_77) (fun _ h9 => h9) rfl d_Mk_init_72 ?_
                        refine lv_iconst (v := (nI 2)) hx hb d_Mk_init_75 (by decide) ?_
                        refine lv_iload_n hx hb d_Mk_init_76 rfl (lv_at hl 0 rfl) ?_
                        refine lv_imul hx hb d_Mk_init_77 ?_
                        refine tp (y := (nI 12)) (by decide) ?_
                        refine lv_iconst (v := (nI 1)) hx hb d_Mk_init_78 (by decide) ?_
                        refine lv_iadd hx hb d_Mk_init_79 ?_
                        refine tp (y := (nI 13)) (by decide) ?_
                        refine ar_ld (k := 13) hx hb hK hP 1 0 rfl rfl (by omega) (by first | decide | omega) d_Mk_init_80 ?_
                        refine lv_iload_n hx hb d_Mk_init_81 rfl (lv_at hl 0 rfl) ?_
                        refine pr_call (va_runS (As := [.int (f_12 12), .int (f_12 13), .int (nI 6)]) (rest := [.int (nI 6), .ref q_1]) ⟨hx, hb, hml, hown, hts⟩ (c_Sg_above l dC dI cI (a := f_12 12) (b := f_12 13) (k := 6) ) ⟨callB_of 3 hts (gd kw_75) rfl rfl rfl (hts _ kw_37) (hts _ kw_73) (by decide +kernel) ⟨Nat.le_of_ble_eq_true rfl, Nat.le_of_ble_eq_true rfl⟩, (hts _ kw_74)⟩ ⟨fun a U g mk q => by obtain ⟨q0, qP, qK⟩ := q; exact ⟨q0, qP, qK.call⟩, fun U hU hW => ⟨rfl, by rw [hU]; exact hP.sub [] rfl, hKN.warm hW⟩⟩ rfl rfl hl.1 rfl (lv_room (Nat.le_of_ble_eq_true rfl)) d_Mk_init_82 ⟨Nat.le_of_ble_eq_true rfl, Nat.le_of_ble_eq_true rfl⟩) ?_
                        refine ar_st (k := 6) hx hb hK hP hD hS 1 0 rfl rfl (by omega) (by first | decide | omega) d_Mk_init_85 (fun H locs hP hD hS => ?_)
                        obtain ⟨f_14, e_14⟩ : ∃ z : Nat → Int32, z = tn f_12 6 := ⟨_, rfl⟩
                        have hP : va_P (dC, dI) classes [(hm, .inr (1, [.int sc, .ref q_1, .int (nI 0)])), (q_1, .inl (cI, 16, .inl f_14))] H := by rw [e_14]; exact hP
                        have hD : va_D A [(hm, .inr (1, [.int sc, .ref q_1, .int (nI 0)])), (q_1, .inl (cI, 16, .inl f_14))] := by rw [e_14]; exact hD
                        refine lv_iinc (k := 0) (v := (nI 5)) (lv' := [(2, .int (nI 5)), (0, .ref hm), (1, .int sc)]) hx hb d_Mk_init_86 hl rfl (by decide) (by decide) rfl (fun ls hl => ?_)
                        refine lv_goto (tgt := 53) hx hb d_Mk_init_89 (by decide) ?_
                        refine lv_iload_n hx hb d_Mk_init_53 rfl (lv_at hl 0 rfl) ?_
                        refine lv_iconst (v := (nI 1)) hx hb d_Mk_init_54 (by decide) ?_
                        refine nb_lt (tgt := 92) hx hb d_Mk_init_55 (by decide) (by decide) (by decide) (fun h_15 => ?_) (fun h_15 => ?_)
                        · exact absurd h_15 (by decide)
                        · refine lv_aload_n hx hb d_Mk_init_58 rfl (lv_at hl 1 rfl) ?_
                          refine va_get (D := (dC, dI)) (ci := 1) (v := .ref q_1) (C := R_Mk) (T := F_Mk) (N := 3) hx hb hts in_Mk hown hK hP 0 rfl rfl 1 (by decide) (hts _ kw_77) (fun _ h9 => h9) rfl d_Mk_init_59 ?_
                          refine lv_iload_n hx hb d_Mk_init_62 rfl (lv_at hl 0 rfl) ?_
                          refine lv_aload_n hx hb d_Mk_init_63 rfl (lv_at hl 1 rfl) ?_
                          refine va_get (D := (dC, dI)) (ci := 1) (v := .ref q_1) (C := R_Mk) (T := F_Mk) (N := 3) hx hb hts in_Mk hown hK hP 0 rfl rfl 1 (by decide) (hts _ kw_77) (fun _ h9 => h9) rfl d_Mk_init_64 ?_
                          refine lv_iconst (v := (nI 2)) hx hb d_Mk_init_67 (by decide) ?_
                          refine lv_iload_n hx hb d_Mk_init_68 rfl (lv_at hl 0 rfl) ?_
                          refine lv_imul hx hb d_Mk_init_69 ?_
                          refine tp (y := (nI 10)) (by decide) ?_
                          refine ar_ld (k := 10) hx hb hK hP 1 0 rfl rfl (by omega) (by first | decide | omega) d_Mk_init_70 ?_
                          refine lv_aload_n hx hb d_Mk_init_71 rfl (lv_at hl 1 rfl) ?_
                          refine va_get (D := (dC, dI)) (ci := 1) (v := .ref q_1) (C := R_Mk) (T := F_Mk) (N := 3) hx hb hts in_Mk hown hK hP 0 rfl rfl 1 (by decide) (hts _ kw_77) (fun _ h9 => h9) rfl d_Mk_init_72 ?_
                          refine lv_iconst (v := (nI 2)) hx hb d_Mk_init_75 (by decide) ?_
                          refine lv_iload_n hx hb d_Mk_init_76 rfl (lv_at hl 0 rfl) ?_
                          refine lv_imul hx hb d_Mk_init_77 ?_
                          refine tp (y := (nI 10)) (by decide) ?_
                          refine lv_iconst (v := (nI 1)) hx hb d_Mk_init_78 (by decide) ?_
                          refine lv_iadd hx hb d_Mk_init_79 ?_
                          refine tp (y := (nI 11)) (by decide) ?_
                          refine ar_ld (k := 11) hx hb hK hP 1 0 rfl rfl (by omega) (by first | decide | omega) d_Mk_init_80 ?_
                          refine lv_iload_n hx hb d_Mk_init_81 rfl (lv_at hl 0 rfl) ?_
                          refine pr_call (va_runS (As := [.int (f_14 10), .int (f_14 11), .int (nI 5)]) (rest := [.int (nI 5), .ref q_1]) ⟨hx, hb, hml, hown, hts⟩ (c_Sg_above l dC dI cI (a := f_14 10) (b := f_14 11) (k := 5) ) ⟨callB_of 3 hts (gd kw_75) rfl rfl rfl (hts _ kw_37) (hts _ kw_73) (by decide +kernel) ⟨Nat.le_of_ble_eq_true rfl, Nat.le_of_ble_eq_true rfl⟩, (hts _ kw_74)⟩ ⟨fun a U g mk q => by obtain ⟨q0, qP, qK⟩ := q; exact ⟨q0, qP, qK.call⟩, fun U hU hW => ⟨rfl, by rw [hU]; exact hP.sub [] rfl, hKN.warm hW⟩⟩ rfl rfl hl.1 rfl (lv_room (Nat.le_of_ble_eq_true rfl)) d_Mk_init_82 ⟨Nat.le_of_ble_eq_true rfl, Nat.le_of_ble_eq_true rfl⟩) ?_
                          refine ar_st (k := 5) hx hb hK hP hD hS 1 0 rfl rfl (by omega) (by first | decide | omega) d_Mk_init_85 (fun H locs hP hD hS => ?_)
                          obtain ⟨f_16, e_16⟩ : ∃ z : Nat → Int32, z = tn f_14 5 := ⟨_, rfl⟩
                          have hP : va_P (dC, dI) classes [(hm, .inr (1, [.int sc, .ref q_1, .int (nI 0)])), (q_1, .inl (cI, 16, .inl f_16))] H := by rw [e_16]; exact hP
                          have hD : va_D A [(hm, .inr (1, [.int sc, .ref q_1, .int (nI 0)])), (q_1, .inl (cI, 16, .inl f_16))] := by rw [e_16]; exact hD
                          refine lv_iinc (k := 0) (v := (nI 4)) (lv' := [(2, .int (nI 4)), (0, .ref hm), (1, .int sc)]) hx hb d_Mk_init_86 hl rfl (by decide) (by decide) rfl (fun ls hl => ?_)
                          refine lv_goto (tgt := 53) hx hb d_Mk_init_89 (by decide) ?_
                          refine lv_iload_n hx hb d_Mk_init_53 rfl (lv_at hl 0 rfl) ?_
                          refine lv_iconst (v := (nI 1)) hx hb d_Mk_init_54 (by decide) ?_
                          refine nb_lt (tgt := 92) hx hb d_Mk_init_55 (by decide) (by decide) (by decide) (fun h_17 => ?_) (fun h_17 => ?_)
                          · exact absurd h_17 (by decide)
                          · refine lv_aload_n hx hb d_Mk_init_58 rfl (lv_at hl 1 rfl) ?_
                            refine va_get (D := (dC, dI)) (ci := 1) (v := .ref q_1) (C := R_Mk) (T := F_Mk) (N := 3) hx hb hts in_Mk hown hK hP 0 rfl rfl 1 (by decide) (hts _ kw_77) (fun _ h9 => h9) rfl d_Mk_init_59 ?_
                            refine lv_iload_n hx hb d_Mk_init_62 rfl (lv_at hl 0 rfl) ?_
                            refine lv_aload_n hx hb d_Mk_init_63 rfl (lv_at hl 1 rfl) ?_
                            refine va_get (D := (dC, dI)) (ci := 1) (v := .ref q_1) (C := R_Mk) (T := F_Mk) (N := 3) hx hb hts in_Mk hown hK hP 0 rfl rfl 1 (by decide) (hts _ kw_77) (fun _ h9 => h9) rfl d_Mk_init_64 ?_
                            refine lv_iconst (v := (nI 2)) hx hb d_Mk_init_67 (by decide) ?_
                            refine lv_iload_n hx hb d_Mk_init_68 rfl (lv_at hl 0 rfl) ?_
                            refine lv_imul hx hb d_Mk_init_69 ?_
                            refine tp (y := (nI 8)) (by decide) ?_
                            refine ar_ld (k := 8) hx hb hK hP 1 0 rfl rfl (by omega) (by first | decide | omega) d_Mk_init_70 ?_
                            refine lv_aload_n hx hb d_Mk_init_71 rfl (lv_at hl 1 rfl) ?_
                            refine va_get (D := (dC, dI)) (ci := 1) (v := .ref q_1) (C := R_Mk) (T := F_Mk) (N := 3) hx hb hts in_Mk hown hK hP 0 rfl rfl 1 (by decide) (hts _ kw_77) (fun _ h9 => h9) rfl d_Mk_init_72 ?_
                            refine lv_iconst (v := (nI 2)) hx hb d_Mk_init_75 (by decide) ?_
                            refine lv_iload_n hx hb d_Mk_init_76 rfl (lv_at hl 0 rfl) ?_
                            refine lv_imul hx hb d_Mk_init_77 ?_
                            refine tp (y := (nI 8)) (by decide) ?_
                            refine lv_iconst (v := (nI 1)) hx hb d_Mk_init_78 (by decide) ?_
                            refine lv_iadd hx hb d_Mk_init_79 ?_
                            refine tp (y := (nI 9)) (by decide) ?_
                            refine ar_ld (k := 9) hx hb hK hP 1 0 rfl rfl (by omega) (by first | decide | omega) d_Mk_init_80 ?_
                            refine lv_iload_n hx hb d_Mk_init_81 rfl (lv_at hl 0 rfl) ?_
                            refine pr_call (va_runS (As := [.int (f_16 8), .int (f_16 9), .int (nI 4)]) (rest := [.int (nI 4), .ref q_1]) ⟨hx, hb, hml, hown, hts⟩ (c_Sg_above l dC dI cI (a := f_16 8) (b := f_16 9) (k := 4) ) ⟨callB_of 3 hts (gd kw_75) rfl rfl rfl (hts _ kw_37) (hts _ kw_73) (by decide +kernel) ⟨Nat.le_of_ble_eq_true rfl, Nat.le_of_ble_eq_true rfl⟩, (hts _ kw_74)⟩ ⟨fun a U g mk q => by obtain ⟨q0, qP, qK⟩ := q; exact ⟨q0, qP, qK.call⟩, fun U hU hW => ⟨rfl, by rw [hU]; exact hP.sub [] rfl, hKN.warm hW⟩⟩ rfl rfl hl.1 rfl (lv_room (Nat.le_of_ble_eq_true rfl)) d_Mk_init_82 ⟨Nat.le_of_ble_eq_true rfl, Nat.le_of_ble_eq_true rfl⟩) ?_
                            refine ar_st (k := 4) hx hb hK hP hD hS 1 0 rfl rfl (by omega) (by first | decide | omega) d_Mk_init_85 (fun H locs hP hD hS => ?_)
                            obtain ⟨f_18, e_18⟩ : ∃ z : Nat → Int32, z = tn f_16 4 := ⟨_, rfl⟩
                            have hP : va_P (dC, dI) classes [(hm, .inr (1, [.int sc, .ref q_1, .int (nI 0)])), (q_1, .inl (cI, 16, .inl f_18))] H := by rw [e_18]; exact hP
                            have hD : va_D A [(hm, .inr (1, [.int sc, .ref q_1, .int (nI 0)])), (q_1, .inl (cI, 16, .inl f_18))] := by rw [e_18]; exact hD
                            refine lv_iinc (k := 0) (v := (nI 3)) (lv' := [(2, .int (nI 3)), (0, .ref hm), (1, .int sc)]) hx hb d_Mk_init_86 hl rfl (by decide) (by decide) rfl (fun ls hl => ?_)
                            refine lv_goto (tgt := 53) hx hb d_Mk_init_89 (by decide) ?_
                            refine lv_iload_n hx hb d_Mk_init_53 rfl (lv_at hl 0 rfl) ?_
                            refine lv_iconst (v := (nI 1)) hx hb d_Mk_init_54 (by decide) ?_
                            refine nb_lt (tgt := 92) hx hb d_Mk_init_55 (by decide) (by decide) (by decide) (fun h_19 => ?_) (fun h_19 => ?_)
                            · exact absurd h_19 (by decide)
                            · refine lv_aload_n hx hb d_Mk_init_58 rfl (lv_at hl 1 rfl) ?_
                              refine va_get (D := (dC, dI)) (ci := 1) (v := .ref q_1) (C := R_Mk) (T := F_Mk) (N := 3) hx hb hts in_Mk hown hK hP 0 rfl rfl 1 (by decide) (hts _ kw_77) (fun _ h9 => h9) rfl d_Mk_init_59 ?_
                              refine lv_iload_n hx hb d_Mk_init_62 rfl (lv_at hl 0 rfl) ?_
                              refine lv_aload_n hx hb d_Mk_init_63 rfl (lv_at hl 1 rfl) ?_
                              refine va_get (D := (dC, dI)) (ci := 1) (v := .ref q_1) (C := R_Mk) (T := F_Mk) (N := 3) hx hb hts in_Mk hown hK hP 0 rfl rfl 1 (by decide) (hts _ kw_77) (fun _ h9 => h9) rfl d_Mk_init_64 ?_
                              refine lv_iconst (v := (nI 2)) hx hb d_Mk_init_67 (by decide) ?_
                              refine lv_iload_n hx hb d_Mk_init_68 rfl (lv_at hl 0 rfl) ?_
                              refine lv_imul hx hb d_Mk_init_69 ?_
                              refine tp (y := (nI 6)) (by decide) ?_
                              refine ar_ld (k := 6) hx hb hK hP 1 0 rfl rfl (by omega) (by first | decide | omega) d_Mk_init_70 ?_
                              refine lv_aload_n hx hb d_Mk_init_71 rfl (lv_at hl 1 rfl) ?_
                              refine va_get (D := (dC, dI)) (ci := 1) (v := .ref q_1) (C := R_Mk) (T := F_Mk) (N := 3) hx hb hts in_Mk hown hK hP 0 rfl rfl 1 (by decide) (hts _ kw_77) (fun _ h9 => h9) rfl d_Mk_init_72 ?_
                              refine lv_iconst (v := (nI 2)) hx hb d_Mk_init_75 (by decide) ?_
                              refine lv_iload_n hx hb d_Mk_init_76 rfl (lv_at hl 0 rfl) ?_
                              refine lv_imul hx hb d_Mk_init_77 ?_
                              refine tp (y := (nI 6)) (by decide) ?_
                              refine lv_iconst (v := (nI 1)) hx hb d_Mk_init_78 (by decide) ?_
                              refine lv_iadd hx hb d_Mk_init_79 ?_
                              refine tp (y := (nI 7)) (by decide) ?_
                              refine ar_ld (k := 7) hx hb hK hP 1 0 rfl rfl (by omega) (by first | decide | omega) d_Mk_init_80 ?_
                              refine lv_iload_n hx hb d_Mk_init_81 rfl (lv_at hl 0 rfl) ?_
                              refine pr_call (va_runS (As := [.int (f_18 6), .int (f_18 7), .int (nI 3)]) (rest := [.int (nI 3), .ref q_1]) ⟨hx, hb, hml, hown, hts⟩ (c_Sg_above l dC dI cI (a := f_18 6) (b := f_18 7) (k := 3) ) ⟨callB_of 3 hts (gd kw_75) rfl rfl rfl (hts _ kw_37) (hts _ kw_73) (by decide +kernel) ⟨Nat.le_of_ble_eq_true rfl, Nat.le_of_ble_eq_true rfl⟩, (hts _ kw_74)⟩ ⟨fun a U g mk q => by obtain ⟨q0, qP, qK⟩ := q; exact ⟨q0, qP, qK.call⟩, fun U hU hW => ⟨rfl, by rw [hU]; exact hP.sub [] rfl, hKN.warm hW⟩⟩ rfl rfl hl.1 rfl (lv_room (Nat.le_of_ble_eq_true rfl)) d_Mk_init_82 ⟨Nat.le_of_ble_eq_true rfl, Nat.le_of_ble_eq_true rfl⟩) ?_
                              refine ar_st (k := 3) hx hb hK hP hD hS 1 0 rfl rfl (by omega) (by first | decide | omega) d_Mk_init_85 (fun H locs hP hD hS => ?_)
                              obtain ⟨f_20, e_20⟩ : ∃ z : Nat → Int32, z = tn f_18 3 := ⟨_, rfl⟩
                              have hP : va_P (dC, dI) classes [(hm, .inr (1, [.int sc, .ref q_1, .int (nI 0)])), (q_1, .inl (cI, 16, .inl f_20))] H := by rw [e_20]; exact hP
                              have hD : va_D A [(hm, .inr (1, [.int sc, .ref q_1, .int (nI 0)])), (q_1, .inl (cI, 16, .inl f_20))] := by rw [e_20]; exact hD
                              refine lv_iinc (k := 0) (v := (nI 2)) (lv' := [(2, .int (nI 2)), (0, .ref hm), (1, .int sc)]) hx hb d_Mk_init_86 hl rfl (by decide) (by decide) rfl (fun ls hl => ?_)
                              refine lv_goto (tgt := 53) hx hb d_Mk_init_89 (by decide) ?_
                              refine lv_iload_n hx hb d_Mk_init_53 rfl (lv_at hl 0 rfl) ?_
                              refine lv_iconst (v := (nI 1)) hx hb d_Mk_init_54 (by decide) ?_
                              refine nb_lt (tgt := 92) hx hb d_Mk_init_55 (by decide) (by decide) (by decide) (fun h_21 => ?_) (fun h_21 => ?_)
                              · exact absurd h_21 (by decide)
                              · refine lv_aload_n hx hb d_Mk_init_58 rfl (lv_at hl 1 rfl) ?_
                                refine va_get (D := (dC, dI)) (ci := 1) (v := .ref q_1) (C := R_Mk) (T := F_Mk) (N := 3) hx hb hts in_Mk hown hK hP 0 rfl rfl 1 (by decide) (hts _ kw_77) (fun _ h9 => h9) rfl d_Mk_init_59 ?_
                                refine lv_iload_n hx hb d_Mk_init_62 rfl (lv_at hl 0 rfl) ?_
                                refine lv_aload_n hx hb d_Mk_init_63 rfl (lv_at hl 1 rfl) ?_
                                refine va_get (D := (dC, dI)) (ci := 1) (v := .ref q_1) (C := R_Mk) (T := F_Mk) (N := 3) hx hb hts in_Mk hown hK hP 0 rfl rfl 1 (by decide) (hts _ kw_77) (fun _ h9 => h9) rfl d_Mk_init_64 ?_
                                refine lv_iconst (v := (nI 2)) hx hb d_Mk_init_67 (by decide) ?_
                                refine lv_iload_n hx hb d_Mk_init_68 rfl (lv_at hl 0 rfl) ?_
                                refine lv_imul hx hb d_Mk_init_69 ?_
                                refine tp (y := (nI 4)) (by decide) ?_
                                refine ar_ld (k := 4) hx hb hK hP 1 0 rfl rfl (by omega) (by first | decide | omega) d_Mk_init_70 ?_
                                refine lv_aload_n hx hb d_Mk_init_71 rfl (lv_at hl 1 rfl) ?_
                                refine va_get (D := (dC, dI)) (ci := 1) (v := .ref q_1) (C := R_Mk) (T := F_Mk) (N := 3) hx hb hts in_Mk hown hK hP 0 rfl rfl 1 (by decide) (hts _ kw_77) (fun _ h9 => h9) rfl d_Mk_init_72 ?_
                                refine lv_iconst (v := (nI 2)) hx hb d_Mk_init_75 (by decide) ?_
                                refine lv_iload_n hx hb d_Mk_init_76 rfl (lv_at hl 0 rfl) ?_
                                refine lv_imul hx hb d_Mk_init_77 ?_
                                refine tp (y := (nI 4)) (by decide) ?_
                                refine lv_iconst (v := (nI 1)) hx hb d_Mk_init_78 (by decide) ?_
                                refine lv_iadd hx hb d_Mk_init_79 ?_
                                refine tp (y := (nI 5)) (by decide) ?_
                                refine ar_ld (k := 5) hx hb hK hP 1 0 rfl rfl (by omega) (by first | decide | omega) d_Mk_init_80 ?_
                                refine lv_iload_n hx hb d_Mk_init_81 rfl (lv_at hl 0 rfl) ?_
                                refine pr_call (va_runS (As := [.int (f_20 4), .int (f_20 5), .int (nI 2)]) (rest := [.int (nI 2), .ref q_1]) ⟨hx, hb, hml, hown, hts⟩ (c_Sg_above l dC dI cI (a := f_20 4) (b := f_20 5) (k := 2) ) ⟨callB_of 3 hts (gd kw_75) rfl rfl rfl (hts _ kw_37) (hts _ kw_73) (by decide +kernel) ⟨Nat.le_of_ble_eq_true rfl, Nat.le_of_ble_eq_true rfl⟩, (hts _ kw_74)⟩ ⟨fun a U g mk q => by obtain ⟨q0, qP, qK⟩ := q; exact ⟨q0, qP, qK.call⟩, fun U hU hW => ⟨rfl, by rw [hU]; exact hP.sub [] rfl, hKN.warm hW⟩⟩ rfl rfl hl.1 rfl (lv_room (Nat.le_of_ble_eq_true rfl)) d_Mk_init_82 ⟨Nat.le_of_ble_eq_true rfl, Nat.le_of_ble_eq_true rfl⟩) ?_
                                refine ar_st (k := 2) hx hb hK hP hD hS 1 0 rfl rfl (by omega) (by first | decide | omega) d_Mk_init_85 (fun H locs hP hD hS => ?_)
                                obtain ⟨f_22, e_22⟩ : ∃ z : Nat → Int32, z = tn f_20 2 := ⟨_, rfl⟩
                                have hP : va_P (dC, dI) classes [(hm, .inr (1, [.int sc, .ref q_1, .int (nI 0)])), (q_1, .inl (cI, 16, .inl f_22))] H := by rw [e_22]; exact hP
                                have hD : va_D A [(hm, .inr (1, [.int sc, .ref q_1, .int (nI 0)])), (q_1, .inl (cI, 16, .inl f_22))] := by rw [e_22]; exact hD
                                refine lv_iinc (k := 0) (v := (nI 1)) (lv' := [(2, .int (nI 1)), (0, .ref hm), (1, .int sc)]) hx hb d_Mk_init_86 hl rfl (by decide) (by decide) rfl (fun ls hl => ?_)
                                refine lv_goto (tgt := 53) hx hb d_Mk_init_89 (by decide) ?_
                                refine lv_iload_n hx hb d_Mk_init_53 rfl (lv_at hl 0 rfl) ?_
                                refine lv_iconst (v := (nI 1)) hx hb d_Mk_init_54 (by decide) ?_
                                refine nb_lt (tgt := 92) hx hb d_Mk_init_55 (by decide) (by decide) (by decide) (fun h_23 => ?_) (fun h_23 => ?_)
                                · exact absurd h_23 (by decide)
                                · refine lv_aload_n hx hb d_Mk_init_58 rfl (lv_at hl 1 rfl) ?_
                                  refine va_get (D := (dC, dI)) (ci := 1) (v := .ref q_1) (C := R_Mk) (T := F_Mk) (N := 3) hx hb hts in_Mk hown hK hP 0 rfl rfl 1 (by decide) (hts _ kw_77) (fun _ h9 => h9) rfl d_Mk_init_59 ?_
                                  refine lv_iload_n hx hb d_Mk_init_62 rfl (lv_at hl 0 rfl) ?_
                                  refine lv_aload_n hx hb d_Mk_init_63 rfl (lv_at hl 1 rfl) ?_
                                  refine va_get (D := (dC, dI)) (ci := 1) (v := .ref q_1) (C := R_Mk) (T := F_Mk) (N := 3) hx hb hts in_Mk hown hK hP 0 rfl rfl 1 (by decide) (hts _ kw_77) (fun _ h9 => h9) rfl d_Mk_init_64 ?_
                                  refine lv_iconst (v := (nI 2)) hx hb d_Mk_init_67 (by decide) ?_
                                  refine lv_iload_n hx hb d_Mk_init_68 rfl (lv_at hl 0 rfl) ?_
                                  refine lv_imul hx hb d_Mk_init_69 ?_
                                  refine tp (y := (nI 2)) (by decide) ?_
                                  refine ar_ld (k := 2) hx hb hK hP 1 0 rfl rfl (by omega) (by first | decide | omega) d_Mk_init_70 ?_
                                  refine lv_aload_n hx hb d_Mk_init_71 rfl (lv_at hl 1 rfl) ?_
                                  refine va_get (D := (dC, dI)) (ci := 1) (v := .ref q_1) (C := R_Mk) (T := F_Mk) (N := 3) hx hb hts in_Mk hown hK hP 0 rfl rfl 1 (by decide) (hts _ kw_77) (fun _ h9 => h9) rfl d_Mk_init_72 ?_
                                  refine lv_iconst (v := (nI 2)) hx hb d_Mk_init_75 (by decide) ?_
                                  refine lv_iload_n hx hb d_Mk_init_76 rfl (lv_at hl 0 rfl) ?_
                                  refine lv_imul hx hb d_Mk_init_77 ?_
                                  refine tp (y := (nI 2)) (by decide) ?_
                                  refine lv_iconst (v := (nI 1)) hx hb d_Mk_init_78 (by decide) ?_
                                  refine lv_iadd hx hb d_Mk_init_79 ?_
                                  refine tp (y := (nI 3)) (by decide) ?_
                                  refine ar_ld (k := 3) hx hb hK hP 1 0 rfl rfl (by omega) (by first | decide | omega) d_Mk_init_80 ?_
                                  refine lv_iload_n hx hb d_Mk_init_81 rfl (lv_at hl 0 rfl) ?_
                                  refine pr_call (va_runS (As := [.int (f_22 2), .int (f_22 3), .int (nI 1)]) (rest := [.int (nI 1), .ref q_1]) ⟨hx, hb, hml, hown, hts⟩ (c_Sg_above l dC dI cI (a := f_22 2) (b := f_22 3) (k := 1) ) ⟨callB_of 3 hts (gd kw_75) rfl rfl rfl (hts _ kw_37) (hts _ kw_73) (by decide +kernel) ⟨Nat.le_of_ble_eq_true rfl, Nat.le_of_ble_eq_true rfl⟩, (hts _ kw_74)⟩ ⟨fun a U g mk q => by obtain ⟨q0, qP, qK⟩ := q; exact ⟨q0, qP, qK.call⟩, fun U hU hW => ⟨rfl, by rw [hU]; exact hP.sub [] rfl, hKN.warm hW⟩⟩ rfl rfl hl.1 rfl (lv_room (Nat.le_of_ble_eq_true rfl)) d_Mk_init_82 ⟨Nat.le_of_ble_eq_true rfl, Nat.le_of_ble_eq_true rfl⟩) ?_
                                  refine ar_st (k := 1) hx hb hK hP hD hS 1 0 rfl rfl (by omega) (by first | decide | omega) d_Mk_init_85 (fun H locs hP hD hS => ?_)
                                  obtain ⟨f_24, e_24⟩ : ∃ z : Nat → Int32, z = tn f_22 1 := ⟨_, rfl⟩
                                  have hP : va_P (dC, dI) classes [(hm, .inr (1, [.int sc, .ref q_1, .int (nI 0)])), (q_1, .inl (cI, 16, .inl f_24))] H := by rw [e_24]; exact hP
                                  have hD : va_D A [(hm, .inr (1, [.int sc, .ref q_1, .int (nI 0)])), (q_1, .inl (cI, 16, .inl f_24))] := by rw [e_24]; exact hD
                                  refine lv_iinc (k := 0) (v := (nI 0)) (lv' := [(2, .int (nI 0)), (0, .ref hm), (1, .int sc)]) hx hb d_Mk_init_86 hl rfl (by decide) (by decide) rfl (fun ls hl => ?_)
                                  refine lv_goto (tgt := 53) hx hb d_Mk_init_89 (by decide) ?_
                                  refine lv_iload_n hx hb d_Mk_init_53 rfl (lv_at hl 0 rfl) ?_
                                  refine lv_iconst (v := (nI 1)) hx hb d_Mk_init_54 (by decide) ?_
                                  refine nb_lt (tgt := 92) hx hb d_Mk_init_55 (by decide) (by decide) (by decide) (fun h_25 => ?_) (fun h_25 => ?_)
                                  · have hP9 := hP.sub (ws' := [(hm, .inr (1, [.int sc, .ref q_1, .int (nI 0)])), (q_1, .inl (cI, 16, .inl f_24))]) [0, 1] rfl
                                    have hD9 := hD.sub (ws' := [(hm, .inr (1, [.int sc, .ref q_1, .int (nI 0)])), (q_1, .inl (cI, 16, .inl f_24))]) [0, 1] (by decide) rfl
                                    exact W.vret hx hb hr (fun t ht hW => ⟨⟨(q_1, f_24), rfl, (by simp only [e_12, e_14, e_16, e_18, e_20, e_22, e_24, mkN, tU, mL]), by rw [ht]; exact hP9, hD9⟩, hS.F ht⟩) hS.2.2 d_Mk_init_92
                                  · exact absurd h_25 (by decide)
                  · exact absurd h_10 (by decide)
set_option maxHeartbeats 4000000 in
set_option maxRecDepth 100000 in
theorem c_St_init (l : Launch) (dC : Nat → ClassId) (dI : Nat → Nat → Nat) (cI : ClassId) (hs : Nat) (ha : Nat) (f : Nat → Int32)  (sz : Nat) : Met l y_St_init w_St_init ({ frames := 2, cells := 1, slots := 40, locals := 43 }) (va_Pc [.ref hs, .ref ha] (fun U => U.heap.size = sz ∧ va_P (dC, dI) classes [(hs, .inr (2, [.null, .int (nI 0), .int (nI 0), .int (nI 0)])), (ha, .inl (cI, 17, .inl f))] U.heap ∧ KN dC dI cI U ∧ va_D (fun _ => True) [(hs, .inr (2, [.null, .int (nI 0), .int (nI 0), .int (nI 0)])), (ha, .inl (cI, 17, .inl f))])) (va_Qv (fun u : Nat × (Nat → Int32) => u.2 = stI f) (fun (u : Nat × (Nat → Int32)) t => va_P (dC, dI) classes [(hs, .inr (2, [.ref u.1, .int (nI 1), .int (nI 0), .int (-1)])), (u.1, .inl (cI, 40, .inl u.2)), (ha, .inl (cI, 17, .inl f))] t.heap ∧ va_D (va_A [(hs, .inr (2, [.null, .int (nI 0), .int (nI 0), .int (nI 0)])), (ha, .inl (cI, 17, .inl f))] sz) [(hs, .inr (2, [.ref u.1, .int (nI 1), .int (nI 0), .int (-1)])), (u.1, .inl (cI, 40, .inl u.2)), (ha, .inl (cI, 17, .inl f))]) (va_A [(hs, .inr (2, [.null, .int (nI 0), .int (nI 0), .int (nI 0)])), (ha, .inl (cI, 17, .inl f))] sz)) 1 40 (va_A [(hs, .inr (2, [.null, .int (nI 0), .int (nI 0), .int (nI 0)])), (ha, .inl (cI, 17, .inl f))] sz) := by
  refine Met.ofW (cc := b_St_init) (maxL := 2) (ret := none) (by decide) rfl ?_
  intro p e s m args below meth c s₁ B hml hv
  obtain ⟨rfl, hsz, hP, hKN, hD0⟩ := hv
  have hK := hKN.1
  have hx := B.exec
  have hb := B.bytes
  have hr := B.returns
  have hts := fun (w : Cond) (h : w ∈ gt) => atoms_spec (ws := w_St_init) B.pre w (List.mem_cons_of_mem _ h)
  have hown : s.vm.findClass R_St = some m.cls := findClass_of_methodNamed B.named
  have hlocks := B.notSynchronized
  subst hsz
  have hD := hD0.self (sz := s.heap.size)
  generalize hAe : va_A [(hs, .inr (2, [.null, .int (nI 0), .int (nI 0), .int (nI 0)])), (ha, .inl (cI, 17, .inl f))] s.heap.size = A at hD ⊢
  have hA : ∀ q : Nat, s.heap.size ≤ q → A q := fun q h => by rw [← hAe]; exact Or.inr h
  have hS : va_S A s.heap s.heap [] := va_S.rf
  have hP : va_P (dC, dI) classes [(hs, .inr (2, [.null, .int (nI 0), .int (nI 0), .int (nI 0)])), (ha, .inl (cI, 17, .inl f))] s.heap := hP
  clear hAe hD0
  have hl := lv_entry ([.ref hs, .ref ha]) (n := 2) (Nat.le_of_ble_eq_true rfl)
  rw [lg_entry_eq]
  generalize (lg_sl ([.ref hs, .ref ha]) ++ List.replicate (2 - (lg_sl ([.ref hs, .ref ha])).length) Slot.unset).toArray = ls at hl ⊢
  have hin : meth.name = "<init>" := (name_of_methodNamed B.named B.method).1
  have hl : lv_has ls 2 [(0, .ref hs), (1, .ref ha)] := hl
  refine lv_aload_n hx hb d_St_init_0 rfl (lv_at hl 0 rfl) ?_
  refine W.objInit hx hb hown (hts _ kw_117) (hts _ kw_50) (hts _ kw_51) rfl (by rw [hml]; exact hl.1) rfl d_St_init_1 (Nat.le_of_ble_eq_true rfl) (Nat.le_of_ble_eq_true rfl) ?_
  refine W.eq (g2 := F0 m 4 ls []) rfl ?_
  refine lv_aload_n hx hb d_St_init_4 rfl (lv_at hl 0 rfl) ?_
  refine lv_bipush (v := (nI 40)) hx hb d_St_init_5 (by decide) ?_
  refine va_newa (atype := .int) (ty := .int) (N' := 40) (a0 := (40, .inl (fun _ => 0))) hx hb (hts _ kw_86) rfl hK hP hD hS hA (fun _ => rfl) (by decide) (by decide) (by decide) (Nat.le_of_ble_eq_true rfl) (Nat.le_of_ble_eq_true rfl) d_St_init_7 (fun q_1 cA H hK2 hP hD hS => ?_)
  have e9 := (arr_one hK2).symm
  subst e9
  clear hK2
  have hP : va_P (dC, dI) classes [(hs, .inr (2, [.null, .int (nI 0), .int (nI 0), .int (nI 0)])), (ha, .inl (cI, 17, .inl f)), (q_1, .inl (cI, 40, .inl (fun _ => 0)))] H := hP
  have hD : va_D A [(hs, .inr (2, [.null, .int (nI 0), .int (nI 0), .int (nI 0)])), (ha, .inl (cI, 17, .inl f)), (q_1, .inl (cI, 40, .inl (fun _ => 0)))] := hD
  refine W.widen (k := 1) (n := 40) (by decide) (by decide) ?_
  refine va_putF (D := (dC, dI)) (ci := 2) (v := .ref q_1) (ty := (.array .int)) (C := R_St) (T := F_St) (N := 4) hx hb hts in_St t_St t_St_ok n_St hown hK hP hD hS 0 rfl rfl 0 (by decide) (hts _ kw_125) (fun _ h9 => h9) rfl hin rfl (by decide +kernel) rfl rfl (Nat.le_of_ble_eq_true rfl) d_St_init_9 (fun H locs hP hD hS => ?_)
  have hP : va_P (dC, dI) classes [(hs, .inr (2, [.ref q_1, .int (nI 0), .int (nI 0), .int (nI 0)])), (ha, .inl (cI, 17, .inl f)), (q_1, .inl (cI, 40, .inl (fun _ => 0)))] H := hP
  have hD : va_D A [(hs, .inr (2, [.ref q_1, .int (nI 0), .int (nI 0), .int (nI 0)])), (ha, .inl (cI, 17, .inl f)), (q_1, .inl (cI, 40, .inl (fun _ => 0)))] := hD
  refine lv_aload_n hx hb d_St_init_12 rfl (lv_at hl 1 rfl) ?_
  refine lv_iconst (v := (nI 0)) hx hb d_St_init_13 (by decide) ?_
  refine lv_aload_n hx hb d_St_init_14 rfl (lv_at hl 0 rfl) ?_
  refine va_get (D := (dC, dI)) (ci := 2) (v := .ref q_1) (C := R_St) (T := F_St) (N := 4) hx hb hts in_St hown hK hP 0 rfl rfl 0 (by decide) (hts _ kw_125) (fun _ h9 => h9) rfl d_St_init_15 ?_
  refine lv_iconst (v := (nI 0)) hx hb d_St_init_18 (by decide) ?_
  refine lv_bipush (v := (nI 17)) hx hb d_St_init_19 (by decide) ?_
  refine va_copyi hx hb (by rw [hml]; exact hl.1.symm) hown (hts _ kw_118) (hts _ kw_120) (hts _ kw_119) (hts _ kw_40) hK hP hD hS 1 2 0 0 rfl rfl rfl rfl rfl (by decide) (by decide) (by decide) (by decide) (by decide) (fun _ _ => rfl) (Nat.le_of_ble_eq_true rfl) (by decide +kernel) d_St_init_21 (fun H locs hP hD hS => ?_)
  have hP : va_P (dC, dI) classes [(hs, .inr (2, [.ref q_1, .int (nI 0), .int (nI 0), .int (nI 0)])), (ha, .inl (cI, 17, .inl f)), (q_1, .inl (cI, 40, .inl (va_cpy f (fun _ => 0) 0 0 17)))] H := hP
  have hD : va_D A [(hs, .inr (2, [.ref q_1, .int (nI 0), .int (nI 0), .int (nI 0)])), (ha, .inl (cI, 17, .inl f)), (q_1, .inl (cI, 40, .inl (va_cpy f (fun _ => 0) 0 0 17)))] := hD
  refine lv_aload_n hx hb d_St_init_24 rfl (lv_at hl 0 rfl) ?_
  refine va_get (D := (dC, dI)) (ci := 2) (v := .ref q_1) (C := R_St) (T := F_St) (N := 4) hx hb hts in_St hown hK hP 0 rfl rfl 0 (by decide) (hts _ kw_125) (fun _ h9 => h9) rfl d_St_init_25 ?_
  refine lv_bipush (v := (nI 34)) hx hb d_St_init_28 (by decide) ?_
  refine lv_iconst (v := (nI 1)) hx hb d_St_init_30 (by decide) ?_
  refine ar_st (k := 34) hx hb hK hP hD hS 2 0 rfl rfl (by omega) (by first | decide | omega) d_St_init_31 (fun H locs hP hD hS => ?_)
  have hP : va_P (dC, dI) classes [(hs, .inr (2, [.ref q_1, .int (nI 0), .int (nI 0), .int (nI 0)])), (ha, .inl (cI, 17, .inl f)), (q_1, .inl (cI, 40, .inl (upd (va_cpy f (fun _ => 0) 0 0 17) 34 (nI 1))))] H := hP
  have hD : va_D A [(hs, .inr (2, [.ref q_1, .int (nI 0), .int (nI 0), .int (nI 0)])), (ha, .inl (cI, 17, .inl f)), (q_1, .inl (cI, 40, .inl (upd (va_cpy f (fun _ => 0) 0 0 17) 34 (nI 1))))] := hD
  refine lv_aload_n hx hb d_St_init_32 rfl (lv_at hl 0 rfl) ?_
  refine va_get (D := (dC, dI)) (ci := 2) (v := .ref q_1) (C := R_St) (T := F_St) (N := 4) hx hb hts in_St hown hK hP 0 rfl rfl 0 (by decide) (hts _ kw_125) (fun _ h9 => h9) rfl d_St_init_33 ?_
  refine lv_bipush (v := (nI 35)) hx hb d_St_init_36 (by decide) ?_
  refine lv_bipush (v := (nI 6)) hx hb d_St_init_38 (by decide) ?_
  refine ar_st (k := 35) hx hb hK hP hD hS 2 0 rfl rfl (by omega) (by first | decide | omega) d_St_init_40 (fun H locs hP hD hS => ?_)
  have hP : va_P (dC, dI) classes [(hs, .inr (2, [.ref q_1, .int (nI 0), .int (nI 0), .int (nI 0)])), (ha, .inl (cI, 17, .inl f)), (q_1, .inl (cI, 40, .inl (upd (upd (va_cpy f (fun _ => 0) 0 0 17) 34 (nI 1)) 35 (nI 6))))] H := hP
  have hD : va_D A [(hs, .inr (2, [.ref q_1, .int (nI 0), .int (nI 0), .int (nI 0)])), (ha, .inl (cI, 17, .inl f)), (q_1, .inl (cI, 40, .inl (upd (upd (va_cpy f (fun _ => 0) 0 0 17) 34 (nI 1)) 35 (nI 6))))] := hD
  refine lv_aload_n hx hb d_St_init_41 rfl (lv_at hl 0 rfl) ?_
  refine va_get (D := (dC, dI)) (ci := 2) (v := .ref q_1) (C := R_St) (T := F_St) (N := 4) hx hb hts in_St hown hK hP 0 rfl rfl 0 (by decide) (hts _ kw_125) (fun _ h9 => h9) rfl d_St_init_42 ?_
  refine lv_bipush (v := (nI 36)) hx hb d_St_init_45 (by decide) ?_
  refine lv_iconst (v := (nI 1)) hx hb d_St_init_47 (by decide) ?_
  refine lv_bipush (v := (nI 6)) hx hb d_St_init_48 (by decide) ?_
  refine pr_call (va_runS (As := [.int (nI 1), .int (nI 6)]) (rest := [.int (nI 36), .ref q_1]) ⟨hx, hb, hml, hown, hts⟩ (c_St_check l dC dI cI (a := (nI 1)) (b := (nI 6)) ) ⟨callB_of 2 hts (gd kw_123) rfl rfl rfl (hts _ kw_39) (hts _ kw_121) (by decide +kernel) ⟨Nat.le_of_ble_eq_true rfl, Nat.le_of_ble_eq_true rfl⟩, (hts _ kw_122)⟩ ⟨fun a U g mk q => by obtain ⟨q0, qP, qK⟩ := q; exact ⟨q0, qP, qK.call⟩, fun U hU hW => ⟨rfl, by rw [hU]; exact hP.sub [] rfl, hKN.warm hW⟩⟩ rfl rfl hl.1 rfl (lv_room (Nat.le_of_ble_eq_true rfl)) d_St_init_50 ⟨Nat.le_of_ble_eq_true rfl, Nat.le_of_ble_eq_true rfl⟩) ?_
  refine ar_st (k := 36) hx hb hK hP hD hS 2 0 rfl rfl (by omega) (by first | decide | omega) d_St_init_53 (fun H locs hP hD hS => ?_)
  have hP : va_P (dC, dI) classes [(hs, .inr (2, [.ref q_1, .int (nI 0), .int (nI 0), .int (nI 0)])), (ha, .inl (cI, 17, .inl f)), (q_1, .inl (cI, 40, .inl (upd (upd (upd (va_cpy f (fun _ => 0) 0 0 17) 34 (nI 1)) 35 (nI 6)) 36 (ck (nI 1) (nI 6)))))] H := hP
  have hD : va_D A [(hs, .inr (2, [.ref q_1, .int (nI 0), .int (nI 0), .int (nI 0)])), (ha, .inl (cI, 17, .inl f)), (q_1, .inl (cI, 40, .inl (upd (upd (upd (va_cpy f (fun _ => 0) 0 0 17) 34 (nI 1)) 35 (nI 6)) 36 (ck (nI 1) (nI 6)))))] := hD
  refine lv_aload_n hx hb d_St_init_54 rfl (lv_at hl 0 rfl) ?_
  refine lv_iconst (v := (nI 1)) hx hb d_St_init_55 (by decide) ?_
  refine va_put (D := (dC, dI)) (ci := 2) (v := .int (nI 1)) (ty := .int) (C := R_St) (T := F_St) (N := 4) hx hb hts in_St t_St t_St_ok n_St hown hK hP hD hS 0 rfl rfl 1 (by decide) (hts _ kw_127) (fun _ h9 => h9) rfl (by decide +kernel) rfl rfl (Nat.le_of_ble_eq_true rfl) d_St_init_56 (fun H locs hP hD hS => ?_)
  have hP : va_P (dC, dI) classes [(hs, .inr (2, [.ref q_1, .int (nI 1), .int (nI 0), .int (nI 0)])), (ha, .inl (cI, 17, .inl f)), (q_1, .inl (cI, 40, .inl (upd (upd (upd (va_cpy f (fun _ => 0) 0 0 17) 34 (nI 1)) 35 (nI 6)) 36 (ck (nI 1) (nI 6)))))] H := hP
  have hD : va_D A [(hs, .inr (2, [.ref q_1, .int (nI 1), .int (nI 0), .int (nI 0)])), (ha, .inl (cI, 17, .inl f)), (q_1, .inl (cI, 40, .inl (upd (upd (upd (va_cpy f (fun _ => 0) 0 0 17) 34 (nI 1)) 35 (nI 6)) 36 (ck (nI 1) (nI 6)))))] := hD
  refine lv_aload_n hx hb d_St_init_59 rfl (lv_at hl 0 rfl) ?_
  refine lv_iconst (v := (nI 0)) hx hb d_St_init_60 (by decide) ?_
  refine va_put (D := (dC, dI)) (ci := 2) (v := .int (nI 0)) (ty := .int) (C := R_St) (T := F_St) (N := 4) hx hb hts in_St t_St t_St_ok n_St hown hK hP hD hS 0 rfl rfl 2 (by decide) (hts _ kw_129) (fun _ h9 => h9) rfl (by decide +kernel) rfl rfl (Nat.le_of_ble_eq_true rfl) d_St_init_61 (fun H locs hP hD hS => ?_)
  have hP : va_P (dC, dI) classes [(hs, .inr (2, [.ref q_1, .int (nI 1), .int (nI 0), .int (nI 0)])), (ha, .inl (cI, 17, .inl f)), (q_1, .inl (cI, 40, .inl (upd (upd (upd (va_cpy f (fun _ => 0) 0 0 17) 34 (nI 1)) 35 (nI 6)) 36 (ck (nI 1) (nI 6)))))] H := hP
  have hD : va_D A [(hs, .inr (2, [.ref q_1, .int (nI 1), .int (nI 0), .int (nI 0)])), (ha, .inl (cI, 17, .inl f)), (q_1, .inl (cI, 40, .inl (upd (upd (upd (va_cpy f (fun _ => 0) 0 0 17) 34 (nI 1)) 35 (nI 6)) 36 (ck (nI 1) (nI 6)))))] := hD
  refine lv_aload_n hx hb d_St_init_64 rfl (lv_at hl 0 rfl) ?_
  refine lv_iconst (v := (-1)) hx hb d_St_init_65 (by decide) ?_
  refine va_put (D := (dC, dI)) (ci := 2) (v := .int (-1)) (ty := .int) (C := R_St) (T := F_St) (N := 4) hx hb hts in_St t_St t_St_ok n_St hown hK hP hD hS 0 rfl rfl 3 (by decide) (hts _ kw_131) (fun _ h9 => h9) rfl (by decide +kernel) rfl rfl (Nat.le_of_ble_eq_true rfl) d_St_init_66 (fun H locs hP hD hS => ?_)
  have hP : va_P (dC, dI) classes [(hs, .inr (2, [.ref q_1, .int (nI 1), .int (nI 0), .int (-1)])), (ha, .inl (cI, 17, .inl f)), (q_1, .inl (cI, 40, .inl (upd (upd (upd (va_cpy f (fun _ => 0) 0 0 17) 34 (nI 1)) 35 (nI 6)) 36 (ck (nI 1) (nI 6)))))] H := hP
  have hD : va_D A [(hs, .inr (2, [.ref q_1, .int (nI 1), .int (nI 0), .int (-1)])), (ha, .inl (cI, 17, .inl f)), (q_1, .inl (cI, 40, .inl (upd (upd (upd (va_cpy f (fun _ => 0) 0 0 17) 34 (nI 1)) 35 (nI 6)) 36 (ck (nI 1) (nI 6)))))] := hD
  have hP9 := hP.sub (ws' := [(hs, .inr (2, [.ref q_1, .int (nI 1), .int (nI 0), .int (-1)])), (q_1, .inl (cI, 40, .inl (upd (upd (upd (va_cpy f (fun _ => 0) 0 0 17) 34 (nI 1)) 35 (nI 6)) 36 (ck (nI 1) (nI 6))))), (ha, .inl (cI, 17, .inl f))]) [0, 2, 1] rfl
  have hD9 := hD.sub (ws' := [(hs, .inr (2, [.ref q_1, .int (nI 1), .int (nI 0), .int (-1)])), (q_1, .inl (cI, 40, .inl (upd (upd (upd (va_cpy f (fun _ => 0) 0 0 17) 34 (nI 1)) 35 (nI 6)) 36 (ck (nI 1) (nI 6))))), (ha, .inl (cI, 17, .inl f))]) [0, 2, 1] (by decide) rfl
  exact W.vret hx hb hr (fun t ht hW => ⟨⟨(q_1, upd (upd (upd (va_cpy f (fun _ => 0) 0 0 17) 34 (nI 1)) 35 (nI 6)) 36 (ck (nI 1) (nI 6))), rfl, (by simp only [stI]), by rw [ht]; exact hP9, hD9⟩, hS.F ht⟩) hS.2.2 d_St_init_69
