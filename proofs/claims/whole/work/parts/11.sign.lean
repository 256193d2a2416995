set_option maxHeartbeats 4000000 in
set_option maxRecDepth 100000 in
theorem c_Sg_leaf (l : Launch) (dC : Nat → ClassId) (dI : Nat → Nat → Nat) (cI : ClassId) (ha : Nat) (b : Nat) (q : Nat) (N : Nat) (f : Nat → Int32) (hN : N < 2 ^ 31) (hbN : b + 17 ≤ N) : Met l y_Sg_leaf w_Sg_leaf ({ frames := 2, cells := 0, slots := 0, locals := 47 }) (va_Pc [.ref ha, .int (nI b), .int (nI q)] (fun U => va_P (dC, dI) classes [(ha, .inl (cI, N, .inl f))] U.heap ∧ KN dC dI cI U)) (qr (sgLeaf (fun i => f (b + i)) q)) 0 0 (fun _ => False) := by
  refine Met.ofW (cc := b_Sg_leaf) (maxL := 6) (ret := (some .int)) (by decide) rfl ?_
  intro p e s m args below meth c s₁ B hml hv
  obtain ⟨rfl, hP, hKN⟩ := hv
  have hK := hKN.1
  have hx := B.exec
  have hb := B.bytes
  have hr := B.returns
  have hts := fun (w : Cond) (h : w ∈ gt) => atoms_spec (ws := w_Sg_leaf) B.pre w (List.mem_cons_of_mem _ h)
  have hown : s.vm.findClass R_Sg = some m.cls := findClass_of_methodNamed B.named
  have hlocks := B.notSynchronized
  have hl := lv_entry ([.ref ha, .int (nI b), .int (nI q)]) (n := 6) (Nat.le_of_ble_eq_true rfl)
  rw [lg_entry_eq]
  generalize (lg_sl ([.ref ha, .int (nI b), .int (nI q)]) ++ List.replicate (6 - (lg_sl ([.ref ha, .int (nI b), .int (nI q)])).length) Slot.unset).toArray = ls at hl ⊢
  have hl : lv_has ls 6 [(0, .ref ha), (1, .int (nI b)), (2, .int (nI q))] := hl
  refine lv_aload_n hx hb d_Sg_leaf_0 rfl (lv_at hl 0 rfl) ?_
  refine lv_iload_n hx hb d_Sg_leaf_1 rfl (lv_at hl 1 rfl) ?_
  refine pr_call (va_runS (As := [.ref ha, .int (nI b)]) (rest := []) ⟨hx, hb, hml, hown, hts⟩ (c_Sg_message l dC dI cI (ha := ha) (b := b) (N := N) (f := f) (hN := (by omega)) (hbN := (by omega))) ⟨callB_of 2 hts (gd kw_104) rfl rfl rfl (hts _ kw_37) (hts _ kw_222) (by decide +kernel) ⟨Nat.le_of_ble_eq_true rfl, Nat.le_of_ble_eq_true rfl⟩, (hts _ kw_103)⟩ ⟨fun a U g mk q => by obtain ⟨q0, qP, qK⟩ := q; exact ⟨q0, qP, qK.call⟩, fun U hU hW => ⟨rfl, by rw [hU]; exact hP.sub [0] rfl, hKN.warm hW⟩⟩ rfl rfl hl.1 rfl (lv_room (Nat.le_of_ble_eq_true rfl)) d_Sg_leaf_2 ⟨Nat.zero_le _, Nat.zero_le _⟩) ?_
  refine lv_istore_n (lv' := [(3, .int (ms4 (fun i => f (b + i)))), (0, .ref ha), (1, .int (nI b)), (2, .int (nI q))]) hx hb d_Sg_leaf_5 rfl hl (by decide) rfl (fun ls hl => ?_)
  refine lv_iload_n hx hb d_Sg_leaf_6 rfl (lv_at hl 3 rfl) ?_
  refine lv_istore (lv' := [(4, .int (nI q)), (3, .int (ms4 (fun i => f (b + i)))), (0, .ref ha), (1, .int (nI b)), (2, .int (nI q))]) hx hb d_Sg_leaf_7 hl (by decide) rfl (fun ls hl => ?_)
  refine lv_iconst (v := (nI 0)) hx hb d_Sg_leaf_9 (by decide) ?_
  refine lv_istore (lv' := [(5, .int (nI 0)), (4, .int (nI q)), (3, .int (ms4 (fun i => f (b + i)))), (0, .ref ha), (1, .int (nI b)), (2, .int (nI q))]) hx hb d_Sg_leaf_10 hl (by decide) rfl (fun ls hl => ?_)
  refine lv_iload hx hb d_Sg_leaf_12 (lv_at hl 0 rfl) ?_
  refine lv_bipush (v := (nI 6)) hx hb d_Sg_leaf_14 (by decide) ?_
  refine nb_ge (tgt := 53) hx hb d_Sg_leaf_16 (by decide) (by decide) (by decide) (fun h_1 => ?_) (fun h_1 => ?_)
  · exact absurd h_1 (by decide)
  · refine lv_iload hx hb d_Sg_leaf_19 (lv_at hl 1 rfl) ?_
    refine lv_aload_n hx hb d_Sg_leaf_21 rfl (lv_at hl 3 rfl) ?_
    refine lv_iload_n hx hb d_Sg_leaf_22 rfl (lv_at hl 4 rfl) ?_
    refine lv_iconst (v := (nI 5)) hx hb d_Sg_leaf_23 (by decide) ?_
    refine lv_iadd hx hb d_Sg_leaf_24 ?_
    refine tp (nI_add _ _) ?_
    refine lv_iload hx hb d_Sg_leaf_25 (lv_at hl 0 rfl) ?_
    refine lv_iadd hx hb d_Sg_leaf_27 ?_
    refine tp (y := (nI (b + 5))) (nI_add _ _) ?_
    refine ar_ld (k := b + 5) hx hb hK hP 0 0 rfl rfl (by omega) (by first | decide | omega) d_Sg_leaf_28 ?_
    refine lv_iload hx hb d_Sg_leaf_29 (lv_at hl 0 rfl) ?_
    refine lv_iload_n hx hb d_Sg_leaf_31 rfl (lv_at hl 2 rfl) ?_
    refine lv_iload hx hb d_Sg_leaf_32 (lv_at hl 0 rfl) ?_
    refine pr_call (va_runS (As := [.int (ms4 (fun i => f (b + i))), .int (nI 0)]) (rest := [.int (nI 0), .int (f (b + 5)), .int (nI q)]) ⟨hx, hb, hml, hown, hts⟩ (c_Sg_digit l dC dI cI (mm := ms4 (fun i => f (b + i))) (ch := 0) (hch := (by omega))) ⟨callB_of 2 hts (gd kw_107) rfl rfl rfl (hts _ kw_37) (hts _ kw_223) (by decide +kernel) ⟨Nat.le_of_ble_eq_true rfl, Nat.le_of_ble_eq_true rfl⟩, (hts _ kw_106)⟩ ⟨fun a U g mk q => by obtain ⟨q0, qP, qK⟩ := q; exact ⟨q0, qP, qK.call⟩, fun U hU hW => ⟨rfl, by rw [hU]; exact hP.sub [] rfl, hKN.warm hW⟩⟩ rfl rfl hl.1 rfl (lv_room (Nat.le_of_ble_eq_true rfl)) d_Sg_leaf_34 ⟨Nat.zero_le _, Nat.zero_le _⟩) ?_
    refine lv_bipush (v := (nI 15)) hx hb d_Sg_leaf_37 (by decide) ?_
    refine pr_call (va_runS (As := [.int (f (b + 5)), .int (nI 0), .int (nI (dgt (ms4 (fun i => f (b + i))) 0)), .int (nI 15)]) (rest := [.int (nI q)]) ⟨hx, hb, hml, hown, hts⟩ (c_Sg_walk l dC dI cI (x := f (b + 5)) (ch := 0) (fr := dgt (ms4 (fun i => f (b + i))) 0) (to := 15) (hfr := (by first | omega | exact dgt_le _ _)) (hto := (by first | omega | exact dgt_le _ _))) ⟨callB_of 4 hts (gd kw_71) rfl rfl rfl (hts _ kw_37) (hts _ kw_224) (by decide +kernel) ⟨Nat.le_of_ble_eq_true rfl, Nat.le_of_ble_eq_true rfl⟩, (hts _ kw_70)⟩ ⟨fun a U g mk q => by obtain ⟨q0, qP, qK⟩ := q; exact ⟨q0, qP, qK.call⟩, fun U hU hW => ⟨rfl, by rw [hU]; exact hP.sub [] rfl, hKN.warm hW⟩⟩ rfl rfl hl.1 rfl (lv_room (Nat.le_of_ble_eq_true rfl)) d_Sg_leaf_39 ⟨Nat.zero_le _, Nat.zero_le _⟩) ?_
    refine pr_call (va_runSN (As := [.int (nI q), .int (al 0 (15 - (dgt (ms4 (fun i => f (b + i))) 0)) (dgt (ms4 (fun i => f (b + i))) 0) (f (b + 5)))]) (rest := []) ⟨hx, hb, hml, hown, hts⟩ (c_TS_hash l dC dI cI (a := (nI q)) (b := al 0 (15 - (dgt (ms4 (fun i => f (b + i))) 0)) (dgt (ms4 (fun i => f (b + i))) 0) (f (b + 5))) ) ⟨va_cnB 2 hts (gd kw_66) rfl rfl rfl (nst_1 hKN.2) (hts _ kw_35) (by decide +kernel) ⟨Nat.le_of_ble_eq_true rfl, Nat.le_of_ble_eq_true rfl⟩, (hts _ kw_65), trivial⟩ ⟨fun a U g mk q => by obtain ⟨q0, qP, qK⟩ := q; exact ⟨q0, qP, qK.call⟩, fun U hU hW => ⟨rfl, by rw [hU]; exact hP.sub [] rfl, hKN.warm hW⟩⟩ rfl rfl hl.1 rfl (lv_room (Nat.le_of_ble_eq_true rfl)) d_Sg_leaf_42 ⟨Nat.zero_le _, Nat.zero_le _⟩) ?_
    refine lv_istore (lv' := [(4, .int (hh (nI q) (al 0 (15 - (dgt (ms4 (fun i => f (b + i))) 0)) (dgt (ms4 (fun i => f (b + i))) 0) (f (b + 5))))), (5, .int (nI 0)), (3, .int (ms4 (fun i => f (b + i)))), (0, .ref ha), (1, .int (nI b)), (2, .int (nI q))]) hx hb d_Sg_leaf_45 hl (by decide) rfl (fun ls hl => ?_)
    refine lv_iinc (k := 1) (v := (nI 1)) (lv' := [(5, .int (nI 1)), (4, .int (hh (nI q) (al 0 (15 - (dgt (ms4 (fun i => f (b + i))) 0)) (dgt (ms4 (fun i => f (b + i))) 0) (f (b + 5))))), (3, .int (ms4 (fun i => f (b + i)))), (0, .ref ha), (1, .int (nI b)), (2, .int (nI q))]) hx hb d_Sg_leaf_47 hl rfl (by decide) (by decide) rfl (fun ls hl => ?_)
    refine lv_goto (tgt := 12) hx hb d_Sg_leaf_50 (by decide) ?_
    refine lv_iload hx hb d_Sg_leaf_12 (lv_at hl 0 rfl) ?_
    refine lv_bipush (v := (nI 6)) hx hb d_Sg_leaf_14 (by decide) ?_
    refine nb_ge (tgt := 53) hx hb d_Sg_leaf_16 (by decide) (by decide) (by decide) (fun h_2 => ?_) (fun h_2 => ?_)
    · exact absurd h_2 (by decide)
    · refine lv_iload hx hb d_Sg_leaf_19 (lv_at hl 1 rfl) ?_
      refine lv_aload_n hx hb d_Sg_leaf_21 rfl (lv_at hl 3 rfl) ?_
      refine lv_iload_n hx hb d_Sg_leaf_22 rfl (lv_at hl 4 rfl) ?_
      refine lv_iconst (v := (nI 5)) hx hb d_Sg_leaf_23 (by decide) ?_
      refine lv_iadd hx hb d_Sg_leaf_24 ?_
      refine tp (nI_add _ _) ?_
      refine lv_iload hx hb d_Sg_leaf_25 (lv_at hl 0 rfl) ?_
      refine lv_iadd hx hb d_Sg_leaf_27 ?_
      refine tp (y := (nI (b + 6))) (nI_add _ _) ?_
      refine ar_ld (k := b + 6) hx hb hK hP 0 0 rfl rfl (by omega) (by first | decide | omega) d_Sg_leaf_28 ?_
      refine lv_iload hx hb d_Sg_leaf_29 (lv_at hl 0 rfl) ?_
      refine lv_iload_n hx hb d_Sg_leaf_31 rfl (lv_at hl 2 rfl) ?_
      refine lv_iload hx hb d_Sg_leaf_32 (lv_at hl 0 rfl) ?_
      refine pr_call (va_runS (As := [.int (ms4 (fun i => f (b + i))), .int (nI 1)]) (rest := [.int (nI 1), .int (f (b + 6)), .int (hh (nI q) (al 0 (15 - (dgt (ms4 (fun i => f (b + i))) 0)) (dgt (ms4 (fun i => f (b + i))) 0) (f (b + 5))))]) ⟨hx, hb, hml, hown, hts⟩ (c_Sg_digit l dC dI cI (mm := ms4 (fun i => f (b + i))) (ch := 1) (hch := (by omega))) ⟨callB_of 2 hts (gd kw_107) rfl rfl rfl (hts _ kw_37) (hts _ kw_223) (by decide +kernel) ⟨Nat.le_of_ble_eq_true rfl, Nat.le_of_ble_eq_true rfl⟩, (hts _ kw_106)⟩ ⟨fun a U g mk q => by obtain ⟨q0, qP, qK⟩ := q; exact ⟨q0, qP, qK.call⟩, fun U hU hW => ⟨rfl, by rw [hU]; exact hP.sub [] rfl, hKN.warm hW⟩⟩ rfl rfl hl.1 rfl (lv_room (Nat.le_of_ble_eq_true rfl)) d_Sg_leaf_34 ⟨Nat.zero_le _, Nat.zero_le _⟩) ?_
      refine lv_bipush (v := (nI 15)) hx hb d_Sg_leaf_37 (by decide) ?_
      refine pr_call (va_runS (As := [.int (f (b + 6)), .int (nI 1), .int (nI (dgt (ms4 (fun i => f (b + i))) 1)), .int (nI 15)]) (rest := [.int (hh (nI q) (al 0 (15 - (dgt (ms4 (fun i => f (b + i))) 0)) (dgt (ms4 (fun i => f (b + i))) 0) (f (b + 5))))]) ⟨hx, hb, hml, hown, hts⟩ (c_Sg_walk l dC dI cI (x := f (b + 6)) (ch := 1) (fr := dgt (ms4 (fun i => f (b + i))) 1) (to := 15) (hfr := (by first | omega | exact dgt_le _ _)) (hto := (by first | omega | exact dgt_le _ _))) ⟨callB_of 4 hts (gd kw_71) rfl rfl rfl (hts _ kw_37) (hts _ kw_224) (by decide +kernel) ⟨Nat.le_of_ble_eq_true rfl, Nat.le_of_ble_eq_true rfl⟩, (hts _ kw_70)⟩ ⟨fun a U g mk q => by obtain ⟨q0, qP, qK⟩ := q; exact ⟨q0, qP, qK.call⟩, fun U hU hW => ⟨rfl, by rw [hU]; exact hP.sub [] rfl, hKN.warm hW⟩⟩ rfl rfl hl.1 rfl (lv_room (Nat.le_of_ble_eq_true rfl)) d_Sg_leaf_39 ⟨Nat.zero_le _, Nat.zero_le _⟩) ?_
      refine pr_call (va_runSN (As := [.int (hh (nI q) (al 0 (15 - (dgt (ms4 (fun i => f (b + i))) 0)) (dgt (ms4 (fun i => f (b + i))) 0) (f (b + 5)))), .int (al 1 (15 - (dgt (ms4 (fun i => f (b + i))) 1)) (dgt (ms4 (fun i => f (b + i))) 1) (f (b + 6)))]) (rest := []) ⟨hx, hb, hml, hown, hts⟩ (c_TS_hash l dC dI cI (a := hh (nI q) (al 0 (15 - (dgt (ms4 (fun i => f (b + i))) 0)) (dgt (ms4 (fun i => f (b + i))) 0) (f (b + 5)))) (b := al 1 (15 - (dgt (ms4 (fun i => f (b + i))) 1)) (dgt (ms4 (fun i => f (b + i))) 1) (f (b + 6))) ) ⟨va_cnB 2 hts (gd kw_66) rfl rfl rfl (nst_1 hKN.2) (hts _ kw_35) (by decide +kernel) ⟨Nat.le_of_ble_eq_true rfl, Nat.le_of_ble_eq_true rfl⟩, (hts _ kw_65), trivial⟩ ⟨fun a U g mk q => by obtain ⟨q0, qP, qK⟩ := q; exact ⟨q0, qP, qK.call⟩, fun U hU hW => ⟨rfl, by rw [hU]; exact hP.sub [] rfl, hKN.warm hW⟩⟩ rfl rfl hl.1 rfl (lv_room (Nat.le_of_ble_eq_true rfl)) d_Sg_leaf_42 ⟨Nat.zero_le _, Nat.zero_le _⟩) ?_
      refine lv_istore (lv' := [(4, .int (hh (hh (nI q) (al 0 (15 - (dgt (ms4 (fun i => f (b + i))) 0)) (dgt (ms4 (fun i => f (b + i))) 0) (f (b + 5)))) (al 1 (15 - (dgt (ms4 (fun i => f (b + i))) 1)) (dgt (ms4 (fun i => f (b + i))) 1) (f (b + 6))))), (5, .int (nI 1)), (3, .int (ms4 (fun i => f (b + i)))), (0, .ref ha), (1, .int (nI b)), (2, .int (nI q))]) hx hb d_Sg_leaf_45 hl (by decide) rfl (fun ls hl => ?_)
      refine lv_iinc (k := 1) (v := (nI 2)) (lv' := [(5, .int (nI 2)), (4, .int (hh (hh (nI q) (al 0 (15 - (dgt (ms4 (fun i => f (b + i))) 0)) (dgt (ms4 (fun i => f (b + i))) 0) (f (b + 5)))) (al 1 (15 - (dgt (ms4 (fun i => f (b + i))) 1)) (dgt (ms4 (fun i => f (b + i))) 1) (f (b + 6))))), (3, .int (ms4 (fun i => f (b + i)))), (0, .ref ha), (1, .int (nI b)), (2, .int (nI q))]) hx hb d_Sg_leaf_47 hl rfl (by decide) (by decide) rfl (fun ls hl => ?_)
      refine lv_goto (tgt := 12) hx hb d_Sg_leaf_50 (by decide) ?_
      refine lv_iload hx hb d_Sg_leaf_12 (lv_at hl 0 rfl) ?_
      refine lv_bipush (v := (nI 6)) hx hb d_Sg_leaf_14 (by decide) ?_
      refine nb_ge (tgt := 53) hx hb d_Sg_leaf_16 (by decide) (by decide) (by decide) (fun h_3 => ?_) (fun h_3 => ?_)
      · exact absurd h_3 (by decide)
      · refine lv_iload hx hb d_Sg_leaf_19 (lv_at hl 1 rfl) ?_
        refine lv_aload_n hx hb d_Sg_leaf_21 rfl (lv_at hl 3 rfl) ?_
        refine lv_iload_n hx hb d_Sg_leaf_22 rfl (lv_at hl 4 rfl) ?_
        refine lv_iconst (v := (nI 5)) hx hb d_Sg_leaf_23 (by decide) ?_
        refine lv_iadd hx hb d_Sg_leaf_24 ?_
        refine tp (nI_add _ _) ?_
        refine lv_iload hx hb d_Sg_leaf_25 (lv_at hl 0 rfl) ?_
        refine lv_iadd hx hb d_Sg_leaf_27 ?_
        refine tp (y := (nI (b + 7))) (nI_add _ _) ?_
        refine ar_ld (k := b + 7) hx hb hK hP 0 0 rfl rfl (by omega) (by first | decide | omega) d_Sg_leaf_28 ?_
        refine lv_iload hx hb d_Sg_leaf_29 (lv_at hl 0 rfl) ?_
        refine lv_iload_n hx hb d_Sg_leaf_31 rfl (lv_at hl 2 rfl) ?_
        refine lv_iload hx hb d_Sg_leaf_32 (lv_at hl 0 rfl) ?_
        refine pr_call (va_runS (As := [.int (ms4 (fun i => f (b + i))), .int (nI 2)]) (rest := [.int (nI 2), .int (f (b + 7)), .int (hh (hh (nI q) (al 0 (15 - (dgt (ms4 (fun i => f (b + i))) 0)) (dgt (ms4 (fun i => f (b + i))) 0) (f (b + 5)))) (al 1 (15 - (dgt (ms4 (fun i => f (b + i))) 1)) (dgt (ms4 (fun i => f (b + i))) 1) (f (b + 6))))]) ⟨hx, hb, hml, hown, hts⟩ (c_Sg_digit l dC dI cI (mm := ms4 (fun i => f (b + i))) (ch := 2) (hch := (by omega))) ⟨callB_of 2 hts (gd kw_107) rfl rfl rfl (hts _ kw_37) (hts _ kw_223) (by decide +kernel) ⟨Nat.le_of_ble_eq_true rfl, Nat.le_of_ble_eq_true rfl⟩, (hts _ kw_106)⟩ ⟨fun a U g mk q => by obtain ⟨q0, qP, qK⟩ := q; exact ⟨q0, qP, qK.call⟩, fun U hU hW => ⟨rfl, by rw [hU]; exact hP.sub [] rfl, hKN.warm hW⟩⟩ rfl rfl hl.1 rfl (lv_room (Nat.le_of_ble_eq_true rfl)) d_Sg_leaf_34 ⟨Nat.zero_le _, Nat.zero_le _⟩) ?_
        refine lv_bipush (v := (nI 15)) hx hb d_Sg_leaf_37 (by decide) ?_
        refine pr_call (va_runS (As := [.int (f (b + 7)), .int (nI 2), .int (nI (dgt (ms4 (fun i => f (b + i))) 2)), .int (nI 15)]) (rest := [.int (hh (hh (nI q) (al 0 (15 - (dgt (ms4 (fun i => f (b + i))) 0)) (dgt (ms4 (fun i => f (b + i))) 0) (f (b + 5)))) (al 1 (15 - (dgt (ms4 (fun i => f (b + i))) 1)) (dgt (ms4 (fun i => f (b + i))) 1) (f (b + 6))))]) ⟨hx, hb, hml, hown, hts⟩ (c_Sg_walk l dC dI cI (x := f (b + 7)) (ch := 2) (fr := dgt (ms4 (fun i => f (b + i))) 2) (to := 15) (hfr := (by first | omega | exact dgt_le _ _)) (hto := (by first | omega | exact dgt_le _ _))) ⟨callB_of 4 hts (gd kw_71) rfl rfl rfl (hts _ kw_37) (hts _ kw_224) (by decide +kernel) ⟨Nat.le_of_ble_eq_true rfl, Nat.le_of_ble_eq_true rfl⟩, (hts _ kw_70)⟩ ⟨fun a U g mk q => by obtain ⟨q0, qP, qK⟩ := q; exact ⟨q0, qP, qK.call⟩, fun U hU hW => ⟨rfl, by rw [hU]; exact hP.sub [] rfl, hKN.warm hW⟩⟩ rfl rfl hl.1 rfl (lv_room (Nat.le_of_ble_eq_true rfl)) d_Sg_leaf_39 ⟨Nat.zero_le _, Nat.zero_le _⟩) ?_
        refine pr_call (va_runSN (As := [.int (hh (hh (nI q) (al 0 (15 - (dgt (ms4 (fun i => f (b + i))) 0)) (dgt (ms4 (fun i => f (b + i))) 0) (f (b + 5)))) (al 1 (15 - (dgt (ms4 (fun i => f (b + i))) 1)) (dgt (ms4 (fun i => f (b + i))) 1) (f (b + 6)))), .int (al 2 (15 - (dgt (ms4 (fun i => f (b + i))) 2)) (dgt (ms4 (fun i => f (b + i))) 2) (f (b + 7)))]) (rest := []) ⟨hx, hb, hml, hown, hts⟩ (c_TS_hash l dC dI cI (a := hh (hh (nI q) (al 0 (15 - (dgt (ms4 (fun i => f (b + i))) 0)) (dgt (ms4 (fun i => f (b + i))) 0) (f (b + 5)))) (al 1 (15 - (dgt (ms4 (fun i => f (b + i))) 1)) (dgt (ms4 (fun i => f (b + i))) 1) (f (b + 6)))) (b := al 2 (15 - (dgt (ms4 (fun i => f (b + i))) 2)) (dgt (ms4 (fun i => f (b + i))) 2) (f (b + 7))) ) ⟨va_cnB 2 hts (gd kw_66) rfl rfl rfl (nst_1 hKN.2) (hts _ kw_35) (by decide +kernel) ⟨Nat.le_of_ble_eq_true rfl, Nat.le_of_ble_eq_true rfl⟩, (hts _ kw_65), trivial⟩ ⟨fun a U g mk q => by obtain ⟨q0, qP, qK⟩ := q; exact ⟨q0, qP, qK.call⟩, fun U hU hW => ⟨rfl, by rw [hU]; exact hP.sub [] rfl, hKN.warm hW⟩⟩ rfl rfl hl.1 rfl (lv_room (Nat.le_of_ble_eq_true rfl)) d_Sg_leaf_42 ⟨Nat.zero_le _, Nat.zero_le _⟩) ?_
        refine lv_istore (lv' := [(4, .int (hh (hh (hh (nI q) (al 0 (15 - (dgt (ms4 (fun i => f (b + i))) 0)) (dgt (ms4 (fun i => f (b + i))) 0) (f (b + 5)))) (al 1 (15 - (dgt (ms4 (fun i => f (b + i))) 1)) (dgt (ms4 (fun i => f (b + i))) 1) (f (b + 6)))) (al 2 (15 - (dgt (ms4 (fun i => f (b + i))) 2)) (dgt (ms4 (fun i => f (b + i))) 2) (f (b + 7))))), (5, .int (nI 2)), (3, .int (ms4 (fun i => f (b + i)))), (0, .ref ha), (1, .int (nI b)), (2, .int (nI q))]) hx hb d_Sg_leaf_45 hl (by decide) rfl (fun ls hl => ?_)
        refine lv_iinc (k := 1) (v := (nI 3)) (lv' := [(5, .int (nI 3)), (4, .int (hh (hh (hh (nI q) (al 0 (15 - (dgt (ms4 (fun i => f (b + i))) 0)) (dgt (ms4 (fun i => f (b + i))) 0) (f (b + 5)))) (al 1 (15 - (dgt (ms4 (fun i => f (b + i))) 1)) (dgt (ms4 (fun i => f (b + i))) 1) (f (b + 6)))) (al 2 (15 - (dgt (ms4 (fun i => f (b + i))) 2)) (dgt (ms4 (fun i => f (b + i))) 2) (f (b + 7))))), (3, .int (ms4 (fun i => f (b + i)))), (0, .ref ha), (1, .int (nI b)), (2, .int (nI q))]) hx hb d_Sg_leaf_47 hl rfl (by decide) (by decide) rfl (fun ls hl => ?_)
        refine lv_goto (tgt := 12) hx hb d_Sg_leaf_50 (by decide) ?_
        refine lv_iload hx hb d_Sg_leaf_12 (lv_at hl 0 rfl) ?_
        refine lv_bipush (v := (nI 6)) hx hb d_Sg_leaf_14 (by decide) ?_
        refine nb_ge (tgt := 53) hx hb d_Sg_leaf_16 (by decide) (by decide) (by decide) (fun h_4 => ?_) (fun h_4 => ?_)
        · exact absurd h_4 (by decide)
        · refine lv_iload hx hb d_Sg_leaf_19 (lv_at hl 1 rfl) ?_
          refine lv_aload_n hx hb d_Sg_leaf_21 rfl (lv_at hl 3 rfl) ?_
          refine lv_iload_n hx hb d_Sg_leaf_22 rfl (lv_at hl 4 rfl) ?_
          refine lv_iconst (v := (nI 5)) hx hb d_Sg_leaf_23 (by decide) ?_
          refine lv_iadd hx hb d_Sg_leaf_24 ?_
          refine tp (nI_add _ _) ?_
          refine lv_iload hx hb d_Sg_leaf_25 (lv_at hl 0 rfl) ?_
          refine lv_iadd hx hb d_Sg_leaf_27 ?_
          refine tp (y := (nI (b + 8))) (nI_add _ _) ?_
          refine ar_ld (k := b + 8) hx hb hK hP 0 0 rfl rfl (by omega) (by first | decide | omega) d_Sg_leaf_28 ?_
          refine lv_iload hx hb d_Sg_leaf_29 (lv_at hl 0 rfl) ?_
          refine lv_iload_n hx hb d_Sg_leaf_31 rfl (lv_at hl 2 rfl) ?_
          refine lv_iload hx hb d_Sg_leaf_32 (lv_at hl 0 rfl) ?_
          refine pr_call (va_runS (As := [.int (ms4 (fun i => f (b + i))), .int (nI 3)]) (rest := [.int (nI 3), .int (f (b + 8)), .int (hh (hh (hh (nI q) (al 0 (15 - (dgt (ms4 (fun i => f (b + i))) 0)) (dgt (ms4 (fun i => f (b + i))) 0) (f (b + 5)))) (al 1 (15 - (dgt (ms4 (fun i => f (b + i))) 1)) (dgt (ms4 (fun i => f (b + i))) 1) (f (b + 6)))) (al 2 (15 - (dgt (ms4 (fun i => f (b + i))) 2)) (dgt (ms4 (fun i => f (b + i))) 2) (f (b + 7))))]) ⟨hx, hb, hml, hown, hts⟩ (c_Sg_digit l dC dI cI (mm := ms4 (fun i => f (b + i))) (ch := 3) (hch := (by omega))) ⟨callB_of 2 hts (gd kw_107) rfl rfl rfl (hts _ kw_37) (hts _ kw_223) (by decide +kernel) ⟨Nat.le_of_ble_eq_true rfl, Nat.le_of_ble_eq_true rfl⟩, (hts _ kw_106)⟩ ⟨fun a U g mk q => by obtain ⟨q0, qP, qK⟩ := q; exact ⟨q0, qP, qK.call⟩, fun U hU hW => ⟨rfl, by rw [hU]; exact hP.sub [] rfl, hKN.warm hW⟩⟩ rfl rfl hl.1 rfl (lv_room (Nat.le_of_ble_eq_true rfl)) d_Sg_leaf_34 ⟨Nat.zero_le _, Nat.zero_le _⟩) ?_
          refine lv_bipush (v := (nI 15)) hx hb d_Sg_leaf_37 (by decide) ?_
          refine pr_call (va_runS (As := [.int (f (b + 8)), .int (nI 3), .int (nI (dgt (ms4 (fun i => f (b + i))) 3)), .int (nI 15)]) (rest := [.int (hh (hh (hh (nI q) (al 0 (15 - (dgt (ms4 (fun i => f (b + i))) 0)) (dgt (ms4 (fun i => f (b + i))) 0) (f (b + 5)))) (al 1 (15 - (dgt (ms4 (fun i => f (b + i))) 1)) (dgt (ms4 (fun i => f (b + i))) 1) (f (b + 6)))) (al 2 (15 - (dgt (ms4 (fun i => f (b + i))) 2)) (dgt (ms4 (fun i => f (b + i))) 2) (f (b + 7))))]) ⟨hx, hb, hml, hown, hts⟩ (c_Sg_walk l dC dI cI (x := f (b + 8)) (ch := 3) (fr := dgt (ms4 (fun i => f (b + i))) 3) (to := 15) (hfr := (by first | omega | exact dgt_le _ _)) (hto := (by first | omega | exact dgt_le _ _))) ⟨callB_of 4 hts (gd kw_71) rfl rfl rfl (hts _ kw_37) (hts _ kw_224) (by decide +kernel) ⟨Nat.le_of_ble_eq_true rfl, Nat.le_of_ble_eq_true rfl⟩, (hts _ kw_70)⟩ ⟨fun a U g mk q => by obtain ⟨q0, qP, qK⟩ := q; exact ⟨q0, qP, qK.call⟩, fun U hU hW => ⟨rfl, by rw [hU]; exact hP.sub [] rfl, hKN.warm hW⟩⟩ rfl rfl hl.1 rfl (lv_room (Nat.le_of_ble_eq_true rfl)) d_Sg_leaf_39 ⟨Nat.zero_le _, Nat.zero_le _⟩) ?_
          refine pr_call (va_runSN (As := [.int (hh (hh (hh (nI q) (al 0 (15 - (dgt (ms4 (fun i => f (b + i))) 0)) (dgt (ms4 (fun i => f (b + i))) 0) (f (b + 5)))) (al 1 (15 - (dgt (ms4 (fun i => f (b + i))) 1)) (dgt (ms4 (fun i => f (b + i))) 1) (f (b + 6)))) (al 2 (15 - (dgt (ms4 (fun i => f (b + i))) 2)) (dgt (ms4 (fun i => f (b + i))) 2) (f (b + 7)))), .int (al 3 (15 - (dgt (ms4 (fun i => f (b + i))) 3)) (dgt (ms4 (fun i => f (b + i))) 3) (f (b + 8)))]) (rest := []) ⟨hx, hb, hml, hown, hts⟩ (c_TS_hash l dC dI cI (a := hh (hh (hh (nI q) (al 0 (15 - (dgt (ms4 (fun i => f (b + i))) 0)) (dgt (ms4 (fun i => f (b + i))) 0) (f (b + 5)))) (al 1 (15 - (dgt (ms4 (fun i => f (b + i))) 1)) (dgt (ms4 (fun i => f (b + i))) 1) (f (b + 6)))) (al 2 (15 - (dgt (ms4 (fun i => f (b + i))) 2)) (dgt (ms4 (fun i => f (b + i))) 2) (f (b + 7)))) (b := al 3 (15 - (dgt (ms4 (fun i => f (b + i))) 3)) (dgt (ms4 (fun i => f (b + i))) 3) (f (b + 8))) ) ⟨va_cnB 2 hts (gd kw_66) rfl rfl rfl (nst_1 hKN.2) (hts _ kw_35) (by decide +kernel) ⟨Nat.le_of_ble_eq_true rfl, Nat.le_of_ble_eq_true rfl⟩, (hts _ kw_65), trivial⟩ ⟨fun a U g mk q => by obtain ⟨q0, qP, qK⟩ := q; exact ⟨q0, qP, qK.call⟩, fun U hU hW => ⟨rfl, by rw [hU]; exact hP.sub [] rfl, hKN.warm hW⟩⟩ rfl rfl hl.1 rfl (lv_room (Nat.le_of_ble_eq_true rfl)) d_Sg_leaf_42 ⟨Nat.zero_le _, Nat.zero_le _⟩) ?_
          refine lv_istore (lv' := [(4, .int (hh (hh (hh (hh (nI q) (al 0 (15 - (dgt (ms4 (fun i => f (b + i))) 0)) (dgt (ms4 (fun i => f (b + i))) 0) (f (b + 5)))) (al 1 (15 - (dgt (ms4 (fun i => f (b + i))) 1)) (dgt (ms4 (fun i => f (b + i))) 1) (f (b + 6)))) (al 2 (15 - (dgt (ms4 (fun i => f (b + i))) 2)) (dgt (ms4 (fun i => f (b + i))) 2) (f (b + 7)))) (al 3 (15 - (dgt (ms4 (fun i => f (b + i))) 3)) (dgt (ms4 (fun i => f (b + i))) 3) (f (b + 8))))), (5, .int (nI 3)), (3, .int (ms4 (fun i => f (b + i)))), (0, .ref ha), (1, .int (nI b)), (2, .int (nI q))]) hx hb d_Sg_leaf_45 hl (by decide) rfl (fun ls hl => ?_)
          refine lv_iinc (k := 1) (v := (nI 4)) (lv' := [(5, .int (nI 4)), (4, .int (hh (hh (hh (hh (nI q) (al 0 (15 - (dgt (ms4 (fun i => f (b + i))) 0)) (dgt (ms4 (fun i => f (b + i))) 0) (f (b + 5)))) (al 1 (15 - (dgt (ms4 (fun i => f (b + i))) 1)) (dgt (ms4 (fun i => f (b + i))) 1) (f (b + 6)))) (al 2 (15 - (dgt (ms4 (fun i => f (b + i))) 2)) (dgt (ms4 (fun i => f (b + i))) 2) (f (b + 7)))) (al 3 (15 - (dgt (ms4 (fun i => f (b + i))) 3)) (dgt (ms4 (fun i => f (b + i))) 3) (f (b + 8))))), (3, .int (ms4 (fun i => f (b + i)))), (0, .ref ha), (1, .int (nI b)), (2, .int (nI q))]) hx hb d_Sg_leaf_47 hl rfl (by decide) (by decide) rfl (fun ls hl => ?_)
          refine lv_goto (tgt := 12) hx hb d_Sg_leaf_50 (by decide) ?_
          refine lv_iload hx hb d_Sg_leaf_12 (lv_at hl 0 rfl) ?_
          refine lv_bipush (v := (nI 6)) hx hb d_Sg_leaf_14 (by decide) ?_
          refine nb_ge (tgt := 53) hx hb d_Sg_leaf_16 (by decide) (by decide) (by decide) (fun h_5 => ?_) (fun h_5 => ?_)
          · exact absurd h_5 (by decide)
          · refine lv_iload hx hb d_Sg_leaf_19 (lv_at hl 1 rfl) ?_
            refine lv_aload_n hx hb d_Sg_leaf_21 rfl (lv_at hl 3 rfl) ?_
            refine lv_iload_n hx hb d_Sg_leaf_22 rfl (lv_at hl 4 rfl) ?_
            refine lv_iconst (v := (nI 5)) hx hb d_Sg_leaf_23 (by decide) ?_
            refine lv_iadd hx hb d_Sg_leaf_24 ?_
            refine tp (nI_add _ _) ?_
            refine lv_iload hx hb d_Sg_leaf_25 (lv_at hl 0 rfl) ?_
            refine lv_iadd hx hb d_Sg_leaf_27 ?_
            refine tp (y := (nI (b + 9))) (nI_add _ _) ?_
            refine ar_ld (k := b + 9) hx hb hK hP 0 0 rfl rfl (by omega) (by first | decide | omega) d_Sg_leaf_28 ?_
            refine lv_iload hx hb d_Sg_leaf_29 (lv_at hl 0 rfl) ?_
            refine lv_iload_n hx hb d_Sg_leaf_31 rfl (lv_at hl 2 rfl) ?_
            refine lv_iload hx hb d_Sg_leaf_32 (lv_at hl 0 rfl) ?_
            refine pr_call (va_runS (As := [.int (ms4 (fun i => f (b + i))), .int (nI 4)]) (rest := [.int (nI 4), .int (f (b + 9)), .int (hh (hh (hh (hh (nI q) (al 0 (15 - (dgt (ms4 (fun i => f (b + i))) 0)) (dgt (ms4 (fun i => f (b + i))) 0) (f (b + 5)))) (al 1 (15 - (dgt (ms4 (fun i => f (b + i))) 1)) (dgt (ms4 (fun i => f (b + i))) 1) (f (b + 6)))) (al 2 (15 - (dgt (ms4 (fun i => f (b + i))) 2)) (dgt (ms4 (fun i => f (b + i))) 2) (f (b + 7)))) (al 3 (15 - (dgt (ms4 (fun i => f (b + i))) 3)) (dgt (ms4 (fun i => f (b + i))) 3) (f (b + 8))))]) ⟨hx, hb, hml, hown, hts⟩ (c_Sg_digit l dC dI cI (mm := ms4 (fun i => f (b + i))) (ch := 4) (hch := (by omega))) ⟨callB_of 2 hts (gd kw_107) rfl rfl rfl (hts _ kw_37) (hts _ kw_223) (by decide +kernel) ⟨Nat.le_of_ble_eq_true rfl, Nat.le_of_ble_eq_true rfl⟩, (hts _ kw_106)⟩ ⟨fun a U g mk q => by obtain ⟨q0, qP, qK⟩ := q; exact ⟨q0, qP, qK.call⟩, fun U hU hW => ⟨rfl, by rw [hU]; exact hP.sub [] rfl, hKN.warm hW⟩⟩ rfl rfl hl.1 rfl (lv_room (Nat.le_of_ble_eq_true rfl)) d_Sg_leaf_34 ⟨Nat.zero_le _, Nat.zero_le _⟩) ?_
            refine lv_bipush (v := (nI 15)) hx hb d_Sg_leaf_37 (by decide) ?_
            refine pr_call (va_runS (As := [.int (f (b + 9)), .int (nI 4), .int (nI (dgt (ms4 (fun i => f (b + i))) 4)), .int (nI 15)]) (rest := [.int (hh (hh (hh (hh (nI q) (al 0 (15 - (dgt (ms4 (fun i => f (b + i))) 0)) (dgt (ms4 (fun i => f (b + i))) 0) (f (b + 5)))) (al 1 (15 - (dgt (ms4 (fun i => f (b + i))) 1)) (dgt (ms4 (fun i => f (b + i))) 1) (f (b + 6)))) (al 2 (15 - (dgt (ms4 (fun i => f (b + i))) 2)) (dgt (ms4 (fun i => f (b + i))) 2) (f (b + 7)))) (al 3 (15 - (dgt (ms4 (fun i => f (b + i))) 3)) (dgt (ms4 (fun i => f (b + i))) 3) (f (b + 8))))]) ⟨hx, hb, hml, hown, hts⟩ (c_Sg_walk l dC dI cI (x := f (b + 9)) (ch := 4) (fr := dgt (ms4 (fun i => f (b + i))) 4) (to := 15) (hfr := (by first | omega | exact dgt_le _ _)) (hto := (by first | omega | exact dgt_le _ _))) ⟨callB_of 4 hts (gd kw_71) rfl rfl rfl (hts _ kw_37) (hts _ kw_224) (by decide +kernel) ⟨Nat.le_of_ble_eq_true rfl, Nat.le_of_ble_eq_true rfl⟩, (hts _ kw_70)⟩ ⟨fun a U g mk q => by obtain ⟨q0, qP, qK⟩ := q; exact ⟨q0, qP, qK.call⟩, fun U hU hW => ⟨rfl, by rw [hU]; exact hP.sub [] rfl, hKN.warm hW⟩⟩ rfl rfl hl.1 rfl (lv_room (Nat.le_of_ble_eq_true rfl)) d_Sg_leaf_39 ⟨Nat.zero_le _, Nat.zero_le _⟩) ?_
            refine pr_call (va_runSN (As := [.int (hh (hh (hh (hh (nI q) (al 0 (15 - (dgt (ms4 (fun i => f (b + i))) 0)) (dgt (ms4 (fun i => f (b + i))) 0) (f (b + 5)))) (al 1 (15 - (dgt (ms4 (fun i => f (b + i))) 1)) (dgt (ms4 (fun i => f (b + i))) 1) (f (b + 6)))) (al 2 (15 - (dgt (ms4 (fun i => f (b + i))) 2)) (dgt (ms4 (fun i => f (b + i))) 2) (f (b + 7)))) (al 3 (15 - (dgt (ms4 (fun i => f (b + i))) 3)) (dgt (ms4 (fun i => f (b + i))) 3) (f (b + 8)))), .int (al 4 (15 - (dgt (ms4 (fun i => f (b + i))) 4)) (dgt (ms4 (fun i => f (b + i))) 4) (f (b + 9)))]) (rest := []) ⟨hx, hb, hml, hown, hts⟩ (c_TS_hash l dC dI cI (a := hh (hh (hh (hh (nI q) (al 0 (15 - (dgt (ms4 (fun i => f (b + i))) 0)) (dgt (ms4 (fun i => f (b + i))) 0) (f (b + 5)))) (al 1 (15 - (dgt (ms4 (fun i => f (b + i))) 1)) (dgt (ms4 (fun i => f (b + i))) 1) (f (b + 6)))) (al 2 (15 - (dgt (ms4 (fun i => f (b + i))) 2)) (dgt (ms4 (fun i => f (b + i))) 2) (f (b + 7)))) (al 3 (15 - (dgt (ms4 (fun i => f (b + i))) 3)) (dgt (ms4 (fun i => f (b + i))) 3) (f (b + 8)))) (b := al 4 (15 - (dgt (ms4 (fun i => f (b + i))) 4)) (dgt (ms4 (fun i => f (b + i))) 4) (f (b + 9))) ) ⟨va_cnB 2 hts (gd kw_66) rfl rfl rfl (nst_1 hKN.2) (hts _ kw_35) (by decide +kernel) ⟨Nat.le_of_ble_eq_true rfl, Nat.le_of_ble_eq_true rfl⟩, (hts _ kw_65), trivial⟩ ⟨fun a U g mk q => by obtain ⟨q0, qP, qK⟩ := q; exact ⟨q0, qP, qK.call⟩, fun U hU hW => ⟨rfl, by rw [hU]; exact hP.sub [] rfl, hKN.warm hW⟩⟩ rfl rfl hl.1 rfl (lv_room (Nat.le_of_ble_eq_true rfl)) d_Sg_leaf_42 ⟨Nat.zero_le _, Nat.zero_le _⟩) ?_
            refine lv_istore (lv' := [(4, .int (hh (hh (hh (hh (hh (nI q) (al 0 (15 - (dgt (ms4 (fun i => f (b + i))) 0)) (dgt (ms4 (fun i => f (b + i))) 0) (f (b + 5)))) (al 1 (15 - (dgt (ms4 (fun i => f (b + i))) 1)) (dgt (ms4 (fun i => f (b + i))) 1) (f (b + 6)))) (al 2 (15 - (dgt (ms4 (fun i => f (b + i))) 2)) (dgt (ms4 (fun i => f (b + i))) 2) (f (b + 7)))) (al 3 (15 - (dgt (ms4 (fun i => f (b + i))) 3)) (dgt (ms4 (fun i => f (b + i))) 3) (f (b + 8)))) (al 4 (15 - (dgt (ms4 (fun i => f (b + i))) 4)) (dgt (ms4 (fun i => f (b + i))) 4) (f (b + 9))))), (5, .int (nI 4)), (3, .int (ms4 (fun i => f (b + i)))), (0, .ref ha), (1, .int (nI b)), (2, .int (nI q))]) hx hb d_Sg_leaf_45 hl (by decide) rfl (fun ls hl => ?_)
            refine lv_iinc (k := 1) (v := (nI 5)) (lv' := [(5, .int (nI 5)), (4, .int (hh (hh (hh (hh (hh (nI q) (al 0 (15 - (dgt (ms4 (fun i => f (b + i))) 0)) (dgt (ms4 (fun i => f (b + i))) 0) (f (b + 5)))) (al 1 (15 - (dgt (ms4 (fun i => f (b + i))) 1)) (dgt (ms4 (fun i => f (b + i))) 1) (f (b + 6)))) (al 2 (15 - (dgt (ms4 (fun i => f (b + i))) 2)) (dgt (ms4 (fun i => f (b + i))) 2) (f (b + 7)))) (al 3 (15 - (dgt (ms4 (fun i => f (b + i))) 3)) (dgt (ms4 (fun i => f (b + i))) 3) (f (b + 8)))) (al 4 (15 - (dgt (ms4 (fun i => f (b + i))) 4)) (dgt (ms4 (fun i => f (b + i))) 4) (f (b + 9))))), (3, .int (ms4 (fun i => f (b + i)))), (0, .ref ha), (1, .int (nI b)), (2, .int (nI q))]) hx hb d_Sg_leaf_47 hl rfl (by decide) (by decide) rfl (fun ls hl => ?_)
            refine lv_goto (tgt := 12) hx hb d_Sg_leaf_50 (by decide) ?_
            refine lv_iload hx hb d_Sg_leaf_12 (lv_at hl 0 rfl) ?_
            refine lv_bipush (v := (nI 6)) hx hb d_Sg_leaf_14 (by decide) ?_
            refine nb_ge (tgt := 53) hx hb d_Sg_leaf_16 (by decide) (by decide) (by decide) (fun h_6 => ?_) (fun h_6 => ?_)
            · exact absurd h_6 (by decide)
            · refine lv_iload hx hb d_Sg_leaf_19 (lv_at hl 1 rfl) ?_
              refine lv_aload_n hx hb d_Sg_leaf_21 rfl (lv_at hl 3 rfl) ?_
              refine lv_iload_n hx hb d_Sg_leaf_22 rfl (lv_at hl 4 rfl) ?_
              refine lv_iconst (v := (nI 5)) hx hb d_Sg_leaf_23 (by decide) ?_
              refine lv_iadd hx hb d_Sg_leaf_24 ?_
              refine tp (nI_add _ _) ?_
              refine lv_iload hx hb d_Sg_leaf_25 (lv_at hl 0 rfl) ?_
              refine lv_iadd hx hb d_Sg_leaf_27 ?_
              refine tp (y := (nI (b + 10))) (nI_add _ _) ?_
              refine ar_ld (k := b + 10) hx hb hK hP 0 0 rfl rfl (by omega) (by first | decide | omega) d_Sg_leaf_28 ?_
              refine lv_iload hx hb d_Sg_leaf_29 (lv_at hl 0 rfl) ?_
              refine lv_iload_n hx hb d_Sg_leaf_31 rfl (lv_at hl 2 rfl) ?_
              refine lv_iload hx hb d_Sg_leaf_32 (lv_at hl 0 rfl) ?_
              refine pr_call (va_runS (As := [.int (ms4 (fun i => f (b + i))), .int (nI 5)]) (rest := [.int (nI 5), .int (f (b + 10)), .int (hh (hh (hh (hh (hh (nI q) (al 0 (15 - (dgt (ms4 (fun i => f (b + i))) 0)) (dgt (ms4 (fun i => f (b + i))) 0) (f (b + 5)))) (al 1 (15 - (dgt (ms4 (fun i => f (b + i))) 1)) (dgt (ms4 (fun i => f (b + i))) 1) (f (b + 6)))) (al 2 (15 - (dgt (ms4 (fun i => f (b + i))) 2)) (dgt (ms4 (fun i => f (b + i))) 2) (f (b + 7)))) (al 3 (15 - (dgt (ms4 (fun i => f (b + i))) 3)) (dgt (ms4 (fun i => f (b + i))) 3) (f (b + 8)))) (al 4 (15 - (dgt (ms4 (fun i => f (b + i))) 4)) (dgt (ms4 (fun i => f (b + i))) 4) (f (b + 9))))]) ⟨hx, hb, hml, hown, hts⟩ (c_Sg_digit l dC dI cI (mm := ms4 (fun i => f (b + i))) (ch := 5) (hch := (by omega))) ⟨callB_of 2 hts (gd kw_107) rfl rfl rfl (hts _ kw_37) (hts _ kw_223) (by decide +kernel) ⟨Nat.le_of_ble_eq_true rfl, Nat.le_of_ble_eq_true rfl⟩, (hts _ kw_106)⟩ ⟨fun a U g mk q => by obtain ⟨q0, qP, qK⟩ := q; exact ⟨q0, qP, qK.call⟩, fun U hU hW => ⟨rfl, by rw [hU]; exact hP.sub [] rfl, hKN.warm hW⟩⟩ rfl rfl hl.1 rfl (lv_room (Nat.le_of_ble_eq_true rfl)) d_Sg_leaf_34 ⟨Nat.zero_le _, Nat.zero_le _⟩) ?_
              refine lv_bipush (v := (nI 15)) hx hb d_Sg_leaf_37 (by decide) ?_
              refine pr_call (va_runS (As := [.int (f (b + 10)), .int (nI 5), .int (nI (dgt (ms4 (fun i => f (b + i))) 5)), .int (nI 15)]) (rest := [.int (hh (hh (hh (hh (hh (nI q) (al 0 (15 - (dgt (ms4 (fun i => f (b + i))) 0)) (dgt (ms4 (fun i => f (b + i))) 0) (f (b + 5)))) (al 1 (15 - (dgt (ms4 (fun i => f (b + i))) 1)) (dgt (ms4 (fun i => f (b + i))) 1) (f (b + 6)))) (al 2 (15 - (dgt (ms4 (fun i => f (b + i))) 2)) (dgt (ms4 (fun i => f (b + i))) 2) (f (b + 7)))) (al 3 (15 - (dgt (ms4 (fun i => f (b + i))) 3)) (dgt (ms4 (fun i => f (b + i))) 3) (f (b + 8)))) (al 4 (15 - (dgt (ms4 (fun i => f (b + i))) 4)) (dgt (ms4 (fun i => f (b + i))) 4) (f (b + 9))))]) ⟨hx, hb, hml, hown, hts⟩ (c_Sg_walk l dC dI cI (x := f (b + 10)) (ch := 5) (fr := dgt (ms4 (fun i => f (b + i))) 5) (to := 15) (hfr := (by first | omega | exact dgt_le _ _)) (hto := (by first | omega | exact dgt_le _ _))) ⟨callB_of 4 hts (gd kw_71) rfl rfl rfl (hts _ kw_37) (hts _ kw_224) (by decide +kernel) ⟨Nat.le_of_ble_eq_true rfl, Nat.le_of_ble_eq_true rfl⟩, (hts _ kw_70)⟩ ⟨fun a U g mk q => by obtain ⟨q0, qP, qK⟩ := q; exact ⟨q0, qP, qK.call⟩, fun U hU hW => ⟨rfl, by rw [hU]; exact hP.sub [] rfl, hKN.warm hW⟩⟩ rfl rfl hl.1 rfl (lv_room (Nat.le_of_ble_eq_true rfl)) d_Sg_leaf_39 ⟨Nat.zero_le _, Nat.zero_le _⟩) ?_
              refine pr_call (va_runSN (As := [.int (hh (hh (hh (hh (hh (nI q) (al 0 (15 - (dgt (ms4 (fun i => f (b + i))) 0)) (dgt (ms4 (fun i => f (b + i))) 0) (f (b + 5)))) (al 1 (15 - (dgt (ms4 (fun i => f (b + i))) 1)) (dgt (ms4 (fun i => f (b + i))) 1) (f (b + 6)))) (al 2 (15 - (dgt (ms4 (fun i => f (b + i))) 2)) (dgt (ms4 (fun i => f (b + i))) 2) (f (b + 7)))) (al 3 (15 - (dgt (ms4 (fun i => f (b + i))) 3)) (dgt (ms4 (fun i => f (b + i))) 3) (f (b + 8)))) (al 4 (15 - (dgt (ms4 (fun i => f (b + i))) 4)) (dgt (ms4 (fun i => f (b + i))) 4) (f (b + 9)))), .int (al 5 (15 - (dgt (ms4 (fun i => f (b + i))) 5)) (dgt (ms4 (fun i => f (b + i))) 5) (f (b + 10)))]) (rest := []) ⟨hx, hb, hml, hown, hts⟩ (c_TS_hash l dC dI cI (a := hh (hh (hh (hh (hh (nI q) (al 0 (15 - (dgt (ms4 (fun i => f (b + i))) 0)) (dgt (ms4 (fun i => f (b + i))) 0) (f (b + 5)))) (al 1 (15 - (dgt (ms4 (fun i => f (b + i))) 1)) (dgt (ms4 (fun i => f (b + i))) 1) (f (b + 6)))) (al 2 (15 - (dgt (ms4 (fun i => f (b + i))) 2)) (dgt (ms4 (fun i => f (b + i))) 2) (f (b + 7)))) (al 3 (15 - (dgt (ms4 (fun i => f (b + i))) 3)) (dgt (ms4 (fun i => f (b + i))) 3) (f (b + 8)))) (al 4 (15 - (dgt (ms4 (fun i => f (b + i))) 4)) (dgt (ms4 (fun i => f (b + i))) 4) (f (b + 9)))) (b := al 5 (15 - (dgt (ms4 (fun i => f (b + i))) 5)) (dgt (ms4 (fun i => f (b + i))) 5) (f (b + 10))) ) ⟨va_cnB 2 hts (gd kw_66) rfl rfl rfl (nst_1 hKN.2) (hts _ kw_35) (by decide +kernel) ⟨Nat.le_of_ble_eq_true rfl, Nat.le_of_ble_eq_true rfl⟩, (hts _ kw_65), trivial⟩ ⟨fun a U g mk q => by obtain ⟨q0, qP, qK⟩ := q; exact ⟨q0, qP, qK.call⟩, fun U hU hW => ⟨rfl, by rw [hU]; exact hP.sub [] rfl, hKN.warm hW⟩⟩ rfl rfl hl.1 rfl (lv_room (Nat.le_of_ble_eq_true rfl)) d_Sg_leaf_42 ⟨Nat.zero_le _, Nat.zero_le _⟩) ?_
              refine lv_istore (lv' := [(4, .int (hh (hh (hh (hh (hh (hh (nI q) (al 0 (15 - (dgt (ms4 (fun i => f (b + i))) 0)) (dgt (ms4 (fun i => f (b + i))) 0) (f (b + 5)))) (al 1 (15 - (dgt (ms4 (fun i => f (b + i))) 1)) (dgt (ms4 (fun i => f (b + i))) 1) (f (b + 6)))) (al 2 (15 - (dgt (ms4 (fun i => f (b + i))) 2)) (dgt (ms4 (fun i => f (b + i))) 2) (f (b + 7)))) (al 3 (15 - (dgt (ms4 (fun i => f (b + i))) 3)) (dgt (ms4 (fun i => f (b + i))) 3) (f (b + 8)))) (al 4 (15 - (dgt (ms4 (fun i => f (b + i))) 4)) (dgt (ms4 (fun i => f (b + i))) 4) (f (b + 9)))) (al 5 (15 - (dgt (ms4 (fun i => f (b + i))) 5)) (dgt (ms4 (fun i => f (b + i))) 5) (f (b + 10))))), (5, .int (nI 5)), (3, .int (ms4 (fun i => f (b + i)))), (0, .ref ha), (1, .int (nI b)), (2, .int (nI q))]) hx hb d_Sg_leaf_45 hl (by decide) rfl (fun ls hl => ?_)
              refine lv_iinc (k := 1) (v := (nI 6)) (lv' := [(5, .int (nI 6)), (4, .int (hh (hh (hh (hh (hh (hh (nI q) (al 0 (15 - (dgt (ms4 (fun i => f (b + i))) 0)) (dgt (ms4 (fun i => f (b + i))) 0) (f (b + 5)))) (al 1 (15 - (dgt (ms4 (fun i => f (b + i))) 1)) (dgt (ms4 (fun i => f (b + i))) 1) (f (b + 6)))) (al 2 (15 - (dgt (ms4 (fun i => f (b + i))) 2)) (dgt (ms4 (fun i => f (b + i))) 2) (f (b + 7)))) (al 3 (15 - (dgt (ms4 (fun i => f (b + i))) 3)) (dgt (ms4 (fun i => f (b + i))) 3) (f (b + 8)))) (al 4 (15 - (dgt (ms4 (fun i => f (b + i))) 4)) (dgt (ms4 (fun i => f (b + i))) 4) (f (b + 9)))) (al 5 (15 - (dgt (ms4 (fun i => f (b + i))) 5)) (dgt (ms4 (fun i => f (b + i))) 5) (f (b + 10))))), (3, .int (ms4 (fun i => f (b + i)))), (0, .ref ha), (1, .int (nI b)), (2, .int (nI q))]) hx hb d_Sg_leaf_47 hl rfl (by decide) (by decide) rfl (fun ls hl => ?_)
              refine lv_goto (tgt := 12) hx hb d_Sg_leaf_50 (by decide) ?_
              refine lv_iload hx hb d_Sg_leaf_12 (lv_at hl 0 rfl) ?_
              refine lv_bipush (v := (nI 6)) hx hb d_Sg_leaf_14 (by decide) ?_
              refine nb_ge (tgt := 53) hx hb d_Sg_leaf_16 (by decide) (by decide) (by decide) (fun h_7 => ?_) (fun h_7 => ?_)
              · refine lv_iload hx hb d_Sg_leaf_53 (lv_at hl 1 rfl) ?_
                exact W.iret (v := (hh (hh (hh (hh (hh (hh (nI q) (al 0 (15 - (dgt (ms4 (fun i => f (b + i))) 0)) (dgt (ms4 (fun i => f (b + i))) 0) (f (b + 5)))) (al 1 (15 - (dgt (ms4 (fun i => f (b + i))) 1)) (dgt (ms4 (fun i => f (b + i))) 1) (f (b + 6)))) (al 2 (15 - (dgt (ms4 (fun i => f (b + i))) 2)) (dgt (ms4 (fun i => f (b + i))) 2) (f (b + 7)))) (al 3 (15 - (dgt (ms4 (fun i => f (b + i))) 3)) (dgt (ms4 (fun i => f (b + i))) 3) (f (b + 8)))) (al 4 (15 - (dgt (ms4 (fun i => f (b + i))) 4)) (dgt (ms4 (fun i => f (b + i))) 4) (f (b + 9)))) (al 5 (15 - (dgt (ms4 (fun i => f (b + i))) 5)) (dgt (ms4 (fun i => f (b + i))) 5) (f (b + 10))))) hx hb hr (fun t ht hW => ⟨_, rfl, (by first | rfl | (simp only []; done) | (simp only []; rfl) | (simp []; done)), ht⟩) (fun q h => by cases h) d_Sg_leaf_55
              · exact absurd h_7 (by decide)
set_option maxHeartbeats 4000000 in
set_option maxRecDepth 100000 in
theorem c_Sg_top (l : Launch) (dC : Nat → ClassId) (dI : Nat → Nat → Nat) (cI : ClassId) (ha : Nat) (b : Nat) (lf : Int32) (N : Nat) (f : Nat → Int32) (q : Nat) (hN : N < 2 ^ 31) (hbN : b + 17 ≤ N) (hq8 : q < 8) (hq : f (b + 4) = nI q) : Met l y_Sg_top w_Sg_top ({ frames := 2, cells := 0, slots := 0, locals := 44 }) (va_Pc [.ref ha, .int (nI b), .int lf] (fun U => va_P (dC, dI) classes [(ha, .inl (cI, N, .inl f))] U.heap ∧ KN dC dI cI U)) (qr (sgTop (fun i => f (b + i)) q lf)) 0 0 (fun _ => False) := by
  refine Met.ofW (cc := b_Sg_top) (maxL := 8) (ret := (some .int)) (by decide) rfl ?_
  intro p e s m args below meth c s₁ B hml hv
  obtain ⟨rfl, hP, hKN⟩ := hv
  have hK := hKN.1
  have hx := B.exec
  have hb := B.bytes
  have hr := B.returns
  have hts := fun (w : Cond) (h : w ∈ gt) => atoms_spec (ws := w_Sg_top) B.pre w (List.mem_cons_of_mem _ h)
  have hown : s.vm.findClass R_Sg = some m.cls := findClass_of_methodNamed B.named
  have hlocks := B.notSynchronized
  have hl := lv_entry ([.ref ha, .int (nI b), .int lf]) (n := 8) (Nat.le_of_ble_eq_true rfl)
  rw [lg_entry_eq]
  generalize (lg_sl ([.ref ha, .int (nI b), .int lf]) ++ List.replicate (8 - (lg_sl ([.ref ha, .int (nI b), .int lf])).length) Slot.unset).toArray = ls at hl ⊢
  have hl : lv_has ls 8 [(0, .ref ha), (1, .int (nI b)), (2, .int lf)] := hl
  refine lv_bipush (v := (nI 8)) hx hb d_Sg_top_0 (by decide) ?_
  refine lv_aload_n hx hb d_Sg_top_2 rfl (lv_at hl 0 rfl) ?_
  refine lv_iload_n hx hb d_Sg_top_3 rfl (lv_at hl 1 rfl) ?_
  refine lv_iconst (v := (nI 4)) hx hb d_Sg_top_4 (by decide) ?_
  refine lv_iadd hx hb d_Sg_top_5 ?_
  refine tp (nI_add _ _) ?_
  refine ar_ld (k := b + 4) hx hb hK hP 0 0 rfl rfl (by omega) (by first | decide | omega) d_Sg_top_6 ?_
  refine tp hq ?_
  refine lv_iadd hx hb d_Sg_top_7 ?_
  refine tp (nI_add _ _) ?_
  refine lv_istore_n (lv' := [(3, .int (nI (8 + q))), (0, .ref ha), (1, .int (nI b)), (2, .int lf)]) hx hb d_Sg_top_8 rfl hl (by decide) rfl (fun ls hl => ?_)
  refine lv_iload_n hx hb d_Sg_top_9 rfl (lv_at hl 3 rfl) ?_
  refine lv_istore (lv' := [(4, .int lf), (3, .int (nI (8 + q))), (0, .ref ha), (1, .int (nI b)), (2, .int lf)]) hx hb d_Sg_top_10 hl (by decide) rfl (fun ls hl => ?_)
  refine lv_iconst (v := (nI 0)) hx hb d_Sg_top_12 (by decide) ?_
  refine lv_istore (lv' := [(5, .int (nI 0)), (4, .int lf), (3, .int (nI (8 + q))), (0, .ref ha), (1, .int (nI b)), (2, .int lf)]) hx hb d_Sg_top_13 hl (by decide) rfl (fun ls hl => ?_)
  refine lv_iload hx hb d_Sg_top_15 (lv_at hl 0 rfl) ?_
  refine lv_iconst (v := (nI 3)) hx hb d_Sg_top_17 (by decide) ?_
  refine nb_ge (tgt := 81) hx hb d_Sg_top_18 (by decide) (by decide) (by decide) (fun h_1 => ?_) (fun h_1 => ?_)
  · exact absurd h_1 (by decide)
  · refine lv_aload_n hx hb d_Sg_top_21 rfl (lv_at hl 3 rfl) ?_
    refine lv_iload_n hx hb d_Sg_top_22 rfl (lv_at hl 4 rfl) ?_
    refine lv_bipush (v := (nI 11)) hx hb d_Sg_top_23 (by decide) ?_
    refine lv_iadd hx hb d_Sg_top_25 ?_
    refine tp (nI_add _ _) ?_
    refine lv_iload hx hb d_Sg_top_26 (lv_at hl 0 rfl) ?_
    refine lv_iadd hx hb d_Sg_top_28 ?_
    refine tp (y := (nI (b + 11))) (nI_add _ _) ?_
    refine ar_ld (k := b + 11) hx hb hK hP 0 0 rfl rfl (by omega) (by first | decide | omega) d_Sg_top_29 ?_
    refine lv_istore (lv' := [(6, .int (f (b + 11))), (5, .int (nI 0)), (4, .int lf), (3, .int (nI (8 + q))), (0, .ref ha), (1, .int (nI b)), (2, .int lf)]) hx hb d_Sg_top_30 hl (by decide) rfl (fun ls hl => ?_)
    refine lv_iload_n hx hb d_Sg_top_32 rfl (lv_at hl 3 rfl) ?_
    refine lv_iconst (v := (nI 2)) hx hb d_Sg_top_33 (by decide) ?_
    refine lv_irem hx hb d_Sg_top_34 (by decide) ?_
    refine tp (pk_rem (by omega) (by decide) (by decide)) ?_
    refine nz_ne (tgt := 42) hx hb d_Sg_top_35 (by decide) (by omega) (fun h_2 => ?_) (fun h_2 => ?_)
    · refine lv_iconst (v := (nI 0)) hx hb d_Sg_top_42 (by decide) ?_
      refine lv_istore (lv' := [(7, .int (nI 0)), (6, .int (f (b + 11))), (5, .int (nI 0)), (4, .int lf), (3, .int (nI (8 + q))), (0, .ref ha), (1, .int (nI b)), (2, .int lf)]) hx hb d_Sg_top_43 hl (by decide) rfl (fun ls hl => ?_)
      refine lv_iload_n hx hb d_Sg_top_45 rfl (lv_at hl 4 rfl) ?_
      refine lv_iconst (v := (nI 2)) hx hb d_Sg_top_46 (by decide) ?_
      refine lv_idiv hx hb d_Sg_top_47 (by decide) ?_
      refine tp (pk_div (by omega) (by decide) (by decide)) ?_
      refine lv_istore_n (lv' := [(3, .int (nI ((8 + q) / 2))), (7, .int (nI 0)), (6, .int (f (b + 11))), (5, .int (nI 0)), (4, .int lf), (0, .ref ha), (1, .int (nI b)), (2, .int lf)]) hx hb d_Sg_top_48 rfl hl (by decide) rfl (fun ls hl => ?_)
      refine lv_iload hx hb d_Sg_top_49 (lv_at hl 1 rfl) ?_
      refine nz_eq (tgt := 65) hx hb d_Sg_top_51 (by decide) (by decide) (fun h_3 => ?_) (fun h_3 => ?_)
      · refine lv_iload hx hb d_Sg_top_65 (lv_at hl 2 rfl) ?_
        refine lv_iload hx hb d_Sg_top_67 (lv_at hl 4 rfl) ?_
        refine lv_iload_n hx hb d_Sg_top_69 rfl (lv_at hl 0 rfl) ?_
        refine pr_call (va_runS (As := [.int (f (b + 11)), .int lf, .int (nI ((8 + q) / 2))]) (rest := []) ⟨hx, hb, hml, hown, hts⟩ (c_Sg_above l dC dI cI (a := f (b + 11)) (b := lf) (k := (8 + q) / 2) ) ⟨callB_of 3 hts (gd kw_75) rfl rfl rfl (hts _ kw_37) (hts _ kw_228) (by decide +kernel) ⟨Nat.le_of_ble_eq_true rfl, Nat.le_of_ble_eq_true rfl⟩, (hts _ kw_74)⟩ ⟨fun a U g mk q => by obtain ⟨q0, qP, qK⟩ := q; exact ⟨q0, qP, qK.call⟩, fun U hU hW => ⟨rfl, by rw [hU]; exact hP.sub [] rfl, hKN.warm hW⟩⟩ rfl rfl hl.1 rfl (lv_room (Nat.le_of_ble_eq_true rfl)) d_Sg_top_70 ⟨Nat.zero_le _, Nat.zero_le _⟩) ?_
        refine lv_istore (lv' := [(4, .int (ab (f (b + 11)) lf ((8 + q) / 2))), (3, .int (nI ((8 + q) / 2))), (7, .int (nI 0)), (6, .int (f (b + 11))), (5, .int (nI 0)), (0, .ref ha), (1, .int (nI b)), (2, .int lf)]) hx hb d_Sg_top_73 hl (by decide) rfl (fun ls hl => ?_)
        refine lv_iinc (k := 4) (v := (nI 1)) (lv' := [(5, .int (nI 1)), (4, .int (ab (f (b + 11)) lf ((8 + q) / 2))), (3, .int (nI ((8 + q) / 2))), (7, .int (nI 0)), (6, .int (f (b + 11))), (0, .ref ha), (1, .int (nI b)), (2, .int lf)]) hx hb d_Sg_top_75 hl rfl (by decide) (by decide) rfl (fun ls hl => ?_)
        refine lv_goto (tgt := 15) hx hb d_Sg_top_78 (by decide) ?_
        refine lv_iload hx hb d_Sg_top_15 (lv_at hl 0 rfl) ?_
        refine lv_iconst (v := (nI 3)) hx hb d_Sg_top_17 (by decide) ?_
        refine nb_ge (tgt := 81) hx hb d_Sg_top_18 (by decide) (by decide) (by decide) (fun h_4 => ?_) (fun h_4 => ?_)
        · exact absurd h_4 (by decide)
        · refine lv_aload_n hx hb d_Sg_top_21 rfl (lv_at hl 5 rfl) ?_
          refine lv_iload_n hx hb d_Sg_top_22 rfl (lv_at hl 6 rfl) ?_
          refine lv_bipush (v := (nI 11)) hx hb d_Sg_top_23 (by decide) ?_
          refine lv_iadd hx hb d_Sg_top_25 ?_
          refine tp (nI_add _ _) ?_
          refine lv_iload hx hb d_Sg_top_26 (lv_at hl 0 rfl) ?_
          refine lv_iadd hx hb d_Sg_top_28 ?_
          refine tp (y := (nI (b + 12))) (nI_add _ _) ?_
          refine ar_ld (k := b + 12) hx hb hK hP 0 0 rfl rfl (by omega) (by first | decide | omega) d_Sg_top_29 ?_
          refine lv_istore (lv' := [(6, .int (f (b + 12))), (5, .int (nI 1)), (4, .int (ab (f (b + 11)) lf ((8 + q) / 2))), (3, .int (nI ((8 + q) / 2))), (7, .int (nI 0)), (0, .ref ha), (1, .int (nI b)), (2, .int lf)]) hx hb d_Sg_top_30 hl (by decide) rfl (fun ls hl => ?_)
          refine lv_iload_n hx hb d_Sg_top_32 rfl (lv_at hl 3 rfl) ?_
          refine lv_iconst (v := (nI 2)) hx hb d_Sg_top_33 (by decide) ?_
          refine lv_irem hx hb d_Sg_top_34 (by decide) ?_
          refine tp (pk_rem (by omega) (by decide) (by decide)) ?_
          refine nz_ne (tgt := 42) hx hb d_Sg_top_35 (by decide) (by omega) (fun h_5 => ?_) (fun h_5 => ?_)
          · refine lv_iconst (v := (nI 0)) hx hb d_Sg_top_42 (by decide) ?_
            refine lv_istore (lv' := [(7, .int (nI 0)), (6, .int (f (b + 12))), (5, .int (nI 1)), (4, .int (ab (f (b + 11)) lf ((8 + q) / 2))), (3, .int (nI ((8 + q) / 2))), (0, .ref ha), (1, .int (nI b)), (2, .int lf)]) hx hb d_Sg_top_43 hl (by decide) rfl (fun ls hl => ?_)
            refine lv_iload_n hx hb d_Sg_top_45 rfl (lv_at hl 4 rfl) ?_
            refine lv_iconst (v := (nI 2)) hx hb d_Sg_top_46 (by decide) ?_
            refine lv_idiv hx hb d_Sg_top_47 (by decide) ?_
            refine tp (pk_div (by omega) (by decide) (by decide)) ?_
            refine lv_istore_n (lv' := [(3, .int (nI (((8 + q) / 2) / 2))), (7, .int (nI 0)), (6, .int (f (b + 12))), (5, .int (nI 1)), (4, .int (ab (f (b + 11)) lf ((8 + q) / 2))), (0, .ref ha), (1, .int (nI b)), (2, .int lf)]) hx hb d_Sg_top_48 rfl hl (by decide) rfl (fun ls hl => ?_)
            refine lv_iload hx hb d_Sg_top_49 (lv_at hl 1 rfl) ?_
            refine nz_eq (tgt := 65) hx hb d_Sg_top_51 (by decide) (by decide) (fun h_6 => ?_) (fun h_6 => ?_)
            · refine lv_iload hx hb d_Sg_top_65 (lv_at hl 2 rfl) ?_
              refine lv_iload hx hb d_Sg_top_67 (lv_at hl 4 rfl) ?_
              refine lv_iload_n hx hb d_Sg_top_69 rfl (lv_at hl 0 rfl) ?_
              refine pr_call (va_runS (As := [.int (f (b + 12)), .int (ab (f (b + 11)) lf ((8 + q) / 2)), .int (nI (((8 + q) / 2) / 2))]) (rest := []) ⟨hx, hb, hml, hown, hts⟩ (c_Sg_above l dC dI cI (a := f (b + 12)) (b := ab (f (b + 11)) lf ((8 + q) / 2)) (k := ((8 + q) / 2) / 2) ) ⟨callB_of 3 hts (gd kw_75) rfl rfl rfl (hts _ kw_37) (hts _ kw_228) (by decide +kernel) ⟨Nat.le_of_ble_eq_true rfl, Nat.le_of_ble_eq_true rfl⟩, (hts _ kw_74)⟩ ⟨fun a U g mk q => by obtain ⟨q0, qP, qK⟩ := q; exact ⟨q0, qP, qK.call⟩, fun U hU hW => ⟨rfl, by rw [hU]; exact hP.sub [] rfl, hKN.warm hW⟩⟩ rfl rfl hl.1 rfl (lv_room (Nat.le_of_ble_eq_true rfl)) d_Sg_top_70 ⟨Nat.zero_le _, Nat.zero_le _⟩) ?_
              refine lv_istore (lv' := [(4, .int (ab (f (b + 12)) (ab (f (b + 11)) lf ((8 + q) / 2)) (((8 + q) / 2) / 2))), (3, .int (nI (((8 + q) / 2) / 2))), (7, .int (nI 0)), (6, .int (f (b + 12))), (5, .int (nI 1)), (0, .ref ha), (1, .int (nI b)), (2, .int lf)]) hx hb d_Sg_top_73 hl (by decide) rfl (fun ls hl => ?_)
              refine lv_iinc (k := 4) (v := (nI 2)) (lv' := [(5, .int (nI 2)), (4, .int (ab (f (b + 12)) (ab (f (b + 11)) lf ((8 + q) / 2)) (((8 + q) / 2) / 2))), (3, .int (nI (((8 + q) / 2) / 2))), (7, .int (nI 0)), (6, .int (f (b + 12))), (0, .ref ha), (1, .int (nI b)), (2, .int lf)]) hx hb d_Sg_top_75 hl rfl (by decide) (by decide) rfl (fun ls hl => ?_)
              refine lv_goto (tgt := 15) hx hb d_Sg_top_78 (by decide) ?_
              refine lv_iload hx hb d_Sg_top_15 (lv_at hl 0 rfl) ?_
              refine lv_iconst (v := (nI 3)) hx hb d_Sg_top_17 (by decide) ?_
              refine nb_ge (tgt := 81) hx hb d_Sg_top_18 (by decide) (by decide) (by decide) (fun h_7 => ?_) (fun h_7 => ?_)
              · exact absurd h_7 (by decide)
              · refine lv_aload_n hx hb d_Sg_top_21 rfl (lv_at hl 5 rfl) ?_
                refine lv_iload_n hx hb d_Sg_top_22 rfl (lv_at hl 6 rfl) ?_
                refine lv_bipush (v := (nI 11)) hx hb d_Sg_top_23 (by decide) ?_
                refine lv_iadd hx hb d_Sg_top_25 ?_
                refine tp (nI_add _ _) ?_
                refine lv_iload hx hb d_Sg_top_26 (lv_at hl 0 rfl) ?_
                refine lv_iadd hx hb d_Sg_top_28 ?_
                refine tp (y := (nI (b + 13))) (nI_add _ _) ?_
                refine ar_ld (k := b + 13) hx hb hK hP 0 0 rfl rfl (by omega) (by first | decide | omega) d_Sg_top_29 ?_
                refine lv_istore (lv' := [(6, .int (f (b + 13))), (5, .int (nI 2)), (4, .int (ab (f (b + 12)) (ab (f (b + 11)) lf ((8 + q) / 2)) (((8 + q) / 2) / 2))), (3, .int (nI (((8 + q) / 2) / 2))), (7, .int (nI 0)), (0, .ref ha), (1, .int (nI b)), (2, .int lf)]) hx hb d_Sg_top_30 hl (by decide) rfl (fun ls hl => ?_)
                refine lv_iload_n hx hb d_Sg_top_32 rfl (lv_at hl 3 rfl) ?_
                refine lv_iconst (v := (nI 2)) hx hb d_Sg_top_33 (by decide) ?_
                refine lv_irem hx hb d_Sg_top_34 (by decide) ?_
                refine tp (pk_rem (by omega) (by decide) (by decide)) ?_
                refine nz_ne (tgt := 42) hx hb d_Sg_top_35 (by decide) (by omega) (fun h_8 => ?_) (fun h_8 => ?_)
                · refine lv_iconst (v := (nI 0)) hx hb d_Sg_top_42 (by decide) ?_
                  refine lv_istore (lv' := [(7, .int (nI 0)), (6, .int (f (b + 13))), (5, .int (nI 2)), (4, .int (ab (f (b + 12)) (ab (f (b + 11)) lf ((8 + q) / 2)) (((8 + q) / 2) / 2))), (3, .int (nI (((8 + q) / 2) / 2))), (0, .ref ha), (1, .int (nI b)), (2, .int lf)]) hx hb d_Sg_top_43 hl (by decide) rfl (fun ls hl => ?_)
                  refine lv_iload_n hx hb d_Sg_top_45 rfl (lv_at hl 4 rfl) ?_
                  refine lv_iconst (v := (nI 2)) hx hb d_Sg_top_46 (by decide) ?_
                  refine lv_idiv hx hb d_Sg_top_47 (by decide) ?_
                  refine tp (pk_div (by omega) (by decide) (by decide)) ?_
                  refine lv_istore_n (lv' := [(3, .int (nI ((((8 + q) / 2) / 2) / 2))), (7, .int (nI 0)), (6, .int (f (b + 13))), (5, .int (nI 2)), (4, .int (ab (f (b + 12)) (ab (f (b + 11)) lf ((8 + q) / 2)) (((8 + q) / 2) / 2))), (0, .ref ha), (1, .int (nI b)), (2, .int lf)]) hx hb d_Sg_top_48 rfl hl (by decide) rfl (fun ls hl => ?_)
                  refine lv_iload hx hb d_Sg_top_49 (lv_at hl 1 rfl) ?_
                  refine nz_eq (tgt := 65) hx hb d_Sg_top_51 (by decide) (by decide) (fun h_9 => ?_) (fun h_9 => ?_)
                  · refine lv_iload hx hb d_Sg_top_65 (lv_at hl 2 rfl) ?_
                    refine lv_iload hx hb d_Sg_top_67 (lv_at hl 4 rfl) ?_
                    refine lv_iload_n hx hb d_Sg_top_69 rfl (lv_at hl 0 rfl) ?_
                    refine pr_call (va_runS (As := [.int (f (b + 13)), .int (ab (f (b + 12)) (ab (f (b + 11)) lf ((8 + q) / 2)) (((8 + q) / 2) / 2)), .int (nI ((((8 + q) / 2) / 2) / 2))]) (rest := []) ⟨hx, hb, hml, hown, hts⟩ (c_Sg_above l dC dI cI (a := f (b + 13)) (b := ab (f (b + 12)) (ab (f (b + 11)) lf ((8 + q) / 2)) (((8 + q) / 2) / 2)) (k := (((8 + q) / 2) / 2) / 2) ) ⟨callB_of 3 hts (gd kw_75) rfl rfl rfl (hts _ kw_37) (hts _ kw_228) (by decide +kernel) ⟨Nat.le_of_ble_eq_true rfl, Nat.le_of_ble_eq_true rfl⟩, (hts _ kw_74)⟩ ⟨fun a U g mk q => by obtain ⟨q0, qP, qK⟩ := q; exact ⟨q0, qP, qK.call⟩, fun U hU hW => ⟨rfl, by rw [hU]; exact hP.sub [] rfl, hKN.warm hW⟩⟩ rfl rfl hl.1 rfl (lv_room (Nat.le_of_ble_eq_true rfl)) d_Sg_top_70 ⟨Nat.zero_le _, Nat.zero_le _⟩) ?_
                    refine lv_istore (lv' := [(4, .int (ab (f (b + 13)) (ab (f (b + 12)) (ab (f (b + 11)) lf ((8 + q) / 2)) (((8 + q) / 2) / 2)) ((((8 + q) / 2) / 2) / 2))), (3, .int (nI ((((8 + q) / 2) / 2) / 2))), (7, .int (nI 0)), (6, .int (f (b + 13))), (5, .int (nI 2)), (0, .ref ha), (1, .int (nI b)), (2, .int lf)]) hx hb d_Sg_top_73 hl (by decide) rfl (fun ls hl => ?_)
                    refine lv_iinc (k := 4) (v := (nI 3)) (lv' := [(5, .int (nI 3)), (4, .int (ab (f (b + 13)) (ab (f (b + 12)) (ab (f (b + 11)) lf ((8 + q) / 2)) (((8 + q) / 2) / 2)) ((((8 + q) / 2) / 2) / 2))), (3, .int (nI ((((8 + q) / 2) / 2) / 2))), (7, .int (nI 0)), (6, .int (f (b + 13))), (0, .ref ha), (1, .int (nI b)), (2, .int lf)]) hx hb d_Sg_top_75 hl rfl (by decide) (by decide) rfl (fun ls hl => ?_)
                    refine lv_goto (tgt := 15) hx hb d_Sg_top_78 (by decide) ?_
                    refine lv_iload hx hb d_Sg_top_15 (lv_at hl 0 rfl) ?_
                    refine lv_iconst (v := (nI 3)) hx hb d_Sg_top_17 (by decide) ?_
                    refine nb_ge (tgt := 81) hx hb d_Sg_top_18 (by decide) (by decide) (by decide) (fun h_10 => ?_) (fun h_10 => ?_)
                    · refine lv_iload hx hb d_Sg_top_81 (lv_at hl 1 rfl) ?_
                      exact W.iret (v := (ab (f (b + 13)) (ab (f (b + 12)) (ab (f (b + 11)) lf ((8 + q) / 2)) (((8 + q) / 2) / 2)) ((((8 + q) / 2) / 2) / 2))) hx hb hr (fun t ht hW => ⟨_, rfl, (by first | rfl | (simp only [sgTop, up1, if_neg h_2, if_neg h_5, if_neg h_8]; done) | (simp only [sgTop, up1, if_neg h_2, if_neg h_5, if_neg h_8]; rfl) | (simp [sgTop, up1, h_2, h_5, h_8]; done)), ht⟩) (fun q h => by cases h) d_Sg_top_83
                    · exact absurd h_10 (by decide)
                  · exact absurd h_9 (by decide)
                · refine lv_iconst (v := (nI 1)) hx hb d_Sg_top_38 (by decide) ?_
                  refine lv_goto (tgt := 43) hx hb d_Sg_top_39 (by decide) ?_
                  refine lv_istore (lv' := [(7, .int (nI 1)), (6, .int (f (b + 13))), (5, .int (nI 2)), (4, .int (ab (f (b + 12)) (ab (f (b + 11)) lf ((8 + q) / 2)) (((8 + q) / 2) / 2))), (3, .int (nI (((8 + q) / 2) / 2))), (0, .ref ha), (1, .int (nI b)), (2, .int lf)]) hx hb d_Sg_top_43 hl (by decide) rfl (fun ls hl => ?_)
                  refine lv_iload_n hx hb d_Sg_top_45 rfl (lv_at hl 4 rfl) ?_
                  refine lv_iconst (v := (nI 2)) hx hb d_Sg_top_46 (by decide) ?_
                  refine lv_idiv hx hb d_Sg_top_47 (by decide) ?_
                  refine tp (pk_div (by omega) (by decide) (by decide)) ?_
                  refine lv_istore_n (lv' := [(3, .int (nI ((((8 + q) / 2) / 2) / 2))), (7, .int (nI 1)), (6, .int (f (b + 13))), (5, .int (nI 2)), (4, .int (ab (f (b + 12)) (ab (f (b + 11)) lf ((8 + q) / 2)) (((8 + q) / 2) / 2))), (0, .ref ha), (1, .int (nI b)), (2, .int lf)]) hx hb d_Sg_top_48 rfl hl (by decide) rfl (fun ls hl => ?_)
                  refine lv_iload hx hb d_Sg_top_49 (lv_at hl 1 rfl) ?_
                  refine nz_eq (tgt := 65) hx hb d_Sg_top_51 (by decide) (by decide) (fun h_11 => ?_) (fun h_11 => ?_)
                  · exact absurd h_11 (by decide)
                  · refine lv_iload hx hb d_Sg_top_54 (lv_at hl 4 rfl) ?_
                    refine lv_iload hx hb d_Sg_top_56 (lv_at hl 2 rfl) ?_
                    refine lv_iload_n hx hb d_Sg_top_58 rfl (lv_at hl 0 rfl) ?_
                    refine pr_call (va_runS (As := [.int (ab (f (b + 12)) (ab (f (b + 11)) lf ((8 + q) / 2)) (((8 + q) / 2) / 2)), .int (f (b + 13)), .int (nI ((((8 + q) / 2) / 2) / 2))]) (rest := []) ⟨hx, hb, hml, hown, hts⟩ (c_Sg_above l dC dI cI (a := ab (f (b + 12)) (ab (f (b + 11)) lf ((8 + q) / 2)) (((8 + q) / 2) / 2)) (b := f (b + 13)) (k := (((8 + q) / 2) / 2) / 2) ) ⟨callB_of 3 hts (gd kw_75) rfl rfl rfl (hts _ kw_37) (hts _ kw_228) (by decide +kernel) ⟨Nat.le_of_ble_eq_true rfl, Nat.le_of_ble_eq_true rfl⟩, (hts _ kw_74)⟩ ⟨fun a U g mk q => by obtain ⟨q0, qP, qK⟩ := q; exact ⟨q0, qP, qK.call⟩, fun U hU hW => ⟨rfl, by rw [hU]; exact hP.sub [] rfl, hKN.warm hW⟩⟩ rfl rfl hl.1 rfl (lv_room (Nat.le_of_ble_eq_true rfl)) d_Sg_top_59 ⟨Nat.zero_le _, Nat.zero_le _⟩) ?_
                    refine lv_goto (tgt := 73) hx hb d_Sg_top_62 (by decide) ?_
                    refine lv_istore (lv' := [(4, .int (ab (ab (f (b + 12)) (ab (f (b + 11)) lf ((8 + q) / 2)) (((8 + q) / 2) / 2)) (f (b + 13)) ((((8 + q) / 2) / 2) / 2))), (3, .int (nI ((((8 + q) / 2) / 2) / 2))), (7, .int (nI 1)), (6, .int (f (b + 13))), (5, .int (nI 2)), (0, .ref ha), (1, .int (nI b)), (2, .int lf)]) hx hb d_Sg_top_73 hl (by decide) rfl (fun ls hl => ?_)
                    refine lv_iinc (k := 4) (v := (nI 3)) (lv' := [(5, .int (nI 3)), (4, .int (ab (ab (f (b + 12)) (ab (f (b + 11)) lf ((8 + q) / 2)) (((8 + q) / 2) / 2)) (f (b + 13)) ((((8 + q) / 2) / 2) / 2))), (3, .int (nI ((((8 + q) / 2) / 2) / 2))), (7, .int (nI 1)), (6, .int (f (b + 13))), (0, .ref ha), (1, .int (nI b)), (2, .int lf)]) hx hb d_Sg_top_75 hl rfl (by decide) (by decide) rfl (fun ls hl => ?_)
                    refine lv_goto (tgt := 15) hx hb d_Sg_top_78 (by decide) ?_
                    refine lv_iload hx hb d_Sg_top_15 (lv_at hl 0 rfl) ?_
                    refine lv_iconst (v := (nI 3)) hx hb d_Sg_top_17 (by decide) ?_
                    refine nb_ge (tgt := 81) hx hb d_Sg_top_18 (by decide) (by decide) (by decide) (fun h_12 => ?_) (fun h_12 => ?_)
                    · refine lv_iload hx hb d_Sg_top_81 (lv_at hl 1 rfl) ?_
                      exact W.iret (v := (ab (ab (f (b + 12)) (ab (f (b + 11)) lf ((8 + q) / 2)) (((8 + q) / 2) / 2)) (f (b + 13)) ((((8 + q) / 2) / 2) / 2))) hx hb hr (fun t ht hW => ⟨_, rfl, (by first | rfl | (simp only [sgTop, up1, if_neg h_2, if_neg h_5, if_pos h_8]; done) | (simp only [sgTop, up1, if_neg h_2, if_neg h_5, if_pos h_8]; rfl) | (simp [sgTop, up1, h_2, h_5, h_8]; done)), ht⟩) (fun q h => by cases h) d_Sg_top_83
                    · exact absurd h_12 (by decide)
            · exact absurd h_6 (by decide)
          · refine lv_iconst (v := (nI 1)) hx hb d_Sg_top_38 (by decide) ?_
            refine lv_goto (tgt := 43) hx hb d_Sg_top_39 (by decide) ?_
            refine lv_istore (lv' := [(7, .int (nI 1)), (6, .int (f (b + 12))), (5, .int (nI 1)), (4, .int (ab (f (b + 11)) lf ((8 + q) / 2))), (3, .int (nI ((8 + q) / 2))), (0, .ref ha), (1, .int (nI b)), (2, .int lf)]) hx hb d_Sg_top_43 hl (by decide) rfl (fun ls hl => ?_)
            refine lv_iload_n hx hb d_Sg_top_45 rfl (lv_at hl 4 rfl) ?_
            refine lv_iconst (v := (nI 2)) hx hb d_Sg_top_46 (by decide) ?_
            refine lv_idiv hx hb d_Sg_top_47 (by decide) ?_
            refine tp (pk_div (by omega) (by decide) (by decide)) ?_
            refine lv_istore_n (lv' := [(3, .int (nI (((8 + q) / 2) / 2))), (7, .int (nI 1)), (6, .int (f (b + 12))), (5, .int (nI 1)), (4, .int (ab (f (b + 11)) lf ((8 + q) / 2))), (0, .ref ha), (1, .int (nI b)), (2, .int lf)]) hx hb d_Sg_top_48 rfl hl (by decide) rfl (fun ls hl => ?_)
            refine lv_iload hx hb d_Sg_top_49 (lv_at hl 1 rfl) ?_
            refine nz_eq (tgt := 65) hx hb d_Sg_top_51 (by decide) (by decide) (fun h_13 => ?_) (fun h_13 => ?_)
            · exact absurd h_13 (by decide)
            · refine lv_iload hx hb d_Sg_top_54 (lv_at hl 4 rfl) ?_
              refine lv_iload hx hb d_Sg_top_56 (lv_at hl 2 rfl) ?_
              refine lv_iload_n hx hb d_Sg_top_58 rfl (lv_at hl 0 rfl) ?_
              refine pr_call (va_runS (As := [.int (ab (f (b + 11)) lf ((8 + q) / 2)), .int (f (b + 12)), .int (nI (((8 + q) / 2) / 2))]) (rest := []) ⟨hx, hb, hml, hown, hts⟩ (c_Sg_above l dC dI cI (a := ab (f (b + 11)) lf ((8 + q) / 2)) (b := f (b + 12)) (k := ((8 + q) / 2) / 2) ) ⟨callB_of 3 hts (gd kw_75) rfl rfl rfl (hts _ kw_37) (hts _ kw_228) (by decide +kernel) ⟨Nat.le_of_ble_eq_true rfl, Nat.le_of_ble_eq_true rfl⟩, (hts _ kw_74)⟩ ⟨fun a U g mk q => by obtain ⟨q0, qP, qK⟩ := q; exact ⟨q0, qP, qK.call⟩, fun U hU hW => ⟨rfl, by rw [hU]; exact hP.sub [] rfl, hKN.warm hW⟩⟩ rfl rfl hl.1 rfl (lv_room (Nat.le_of_ble_eq_true rfl)) d_Sg_top_59 ⟨Nat.zero_le _, Nat.zero_le _⟩) ?_
              refine lv_goto (tgt := 73) hx hb d_Sg_top_62 (by decide) ?_
              refine lv_istore (lv' := [(4, .int (ab (ab (f (b + 11)) lf ((8 + q) / 2)) (f (b + 12)) (((8 + q) / 2) / 2))), (3, .int (nI (((8 + q) / 2) / 2))), (7, .int (nI 1)), (6, .int (f (b + 12))), (5, .int (nI 1)), (0, .ref ha), (1, .int (nI b)), (2, .int lf)]) hx hb d_Sg_top_73 hl (by decide) rfl (fun ls hl => ?_)
              refine lv_iinc (k := 4) (v := (nI 2)) (lv' := [(5, .int (nI 2)), (4, .int (ab (ab (f (b + 11)) lf ((8 + q) / 2)) (f (b + 12)) (((8 + q) / 2) / 2))), (3, .int (nI (((8 + q) / 2) / 2))), (7, .int (nI 1)), (6, .int (f (b + 12))), (0, .ref ha), (1, .int (nI b)), (2, .int lf)]) hx hb d_Sg_top_75 hl rfl (by decide) (by decide) rfl (fun ls hl => ?_)
              refine lv_goto (tgt := 15) hx hb d_Sg_top_78 (by decide) ?_
              refine lv_iload hx hb d_Sg_top_15 (lv_at hl 0 rfl) ?_
              refine lv_iconst (v := (nI 3)) hx hb d_Sg_top_17 (by decide) ?_
              refine nb_ge (tgt := 81) hx hb d_Sg_top_18 (by decide) (by decide) (by decide) (fun h_14 => ?_) (fun h_14 => ?_)
              · exact absurd h_14 (by decide)
              · refine lv_aload_n hx hb d_Sg_top_21 rfl (lv_at hl 5 rfl) ?_
                refine lv_iload_n hx hb d_Sg_top_22 rfl (lv_at hl 6 rfl) ?_
                refine lv_bipush (v := (nI 11)) hx hb d_Sg_top_23 (by decide) ?_
                refine lv_iadd hx hb d_Sg_top_25 ?_
                refine tp (nI_add _ _) ?_
                refine lv_iload hx hb d_Sg_top_26 (lv_at hl 0 rfl) ?_
                refine lv_iadd hx hb d_Sg_top_28 ?_
                refine tp (y := (nI (b + 13))) (nI_add _ _) ?_
                refine ar_ld (k := b + 13) hx hb hK hP 0 0 rfl rfl (by omega) (by first | decide | omega) d_Sg_top_29 ?_
                refine lv_istore (lv' := [(6, .int (f (b + 13))), (5, .int (nI 2)), (4, .int (ab (ab (f (b + 11)) lf ((8 + q) / 2)) (f (b + 12)) (((8 + q) / 2) / 2))), (3, .int (nI (((8 + q) / 2) / 2))), (7, .int (nI 1)), (0, .ref ha), (1, .int (nI b)), (2, .int lf)]) hx hb d_Sg_top_30 hl (by decide) rfl (fun ls hl => ?_)
                refine lv_iload_n hx hb d_Sg_top_32 rfl (lv_at hl 3 rfl) ?_
                refine lv_iconst (v := (nI 2)) hx hb d_Sg_top_33 (by decide) ?_
                refine lv_irem hx hb d_Sg_top_34 (by decide) ?_
                refine tp (pk_rem (by omega) (by decide) (by decide)) ?_
                refine nz_ne (tgt := 42) hx hb d_Sg_top_35 (by decide) (by omega) (fun h_15 => ?_) (fun h_15 => ?_)
                · refine lv_iconst (v := (nI 0)) hx hb d_Sg_top_42 (by decide) ?_
                  refine lv_istore (lv' := [(7, .int (nI 0)), (6, .int (f (b + 13))), (5, .int (nI 2)), (4, .int (ab (ab (f (b + 11)) lf ((8 + q) / 2)) (f (b + 12)) (((8 + q) / 2) / 2))), (3, .int (nI (((8 + q) / 2) / 2))), (0, .ref ha), (1, .int (nI b)), (2, .int lf)]) hx hb d_Sg_top_43 hl (by decide) rfl (fun ls hl => ?_)
                  refine lv_iload_n hx hb d_Sg_top_45 rfl (lv_at hl 4 rfl) ?_
                  refine lv_iconst (v := (nI 2)) hx hb d_Sg_top_46 (by decide) ?_
                  refine lv_idiv hx hb d_Sg_top_47 (by decide) ?_
                  refine tp (pk_div (by omega) (by decide) (by decide)) ?_
                  refine lv_istore_n (lv' := [(3, .int (nI ((((8 + q) / 2) / 2) / 2))), (7, .int (nI 0)), (6, .int (f (b + 13))), (5, .int (nI 2)), (4, .int (ab (ab (f (b + 11)) lf ((8 + q) / 2)) (f (b + 12)) (((8 + q) / 2) / 2))), (0, .ref ha), (1, .int (nI b)), (2, .int lf)]) hx hb d_Sg_top_48 rfl hl (by decide) rfl (fun ls hl => ?_)
                  refine lv_iload hx hb d_Sg_top_49 (lv_at hl 1 rfl) ?_
                  refine nz_eq (tgt := 65) hx hb d_Sg_top_51 (by decide) (by decide) (fun h_16 => ?_) (fun h_16 => ?_)
                  · refine lv_iload hx hb d_Sg_top_65 (lv_at hl 2 rfl) ?_
                    refine lv_iload hx hb d_Sg_top_67 (lv_at hl 4 rfl) ?_
                    refine lv_iload_n hx hb d_Sg_top_69 rfl (lv_at hl 0 rfl) ?_
                    refine pr_call (va_runS (As := [.int (f (b + 13)), .int (ab (ab (f (b + 11)) lf ((8 + q) / 2)) (f (b + 12)) (((8 + q) / 2) / 2)), .int (nI ((((8 + q) / 2) / 2) / 2))]) (rest := []) ⟨hx, hb, hml, hown, hts⟩ (c_Sg_above l dC dI cI (a := f (b + 13)) (b := ab (ab (f (b + 11)) lf ((8 + q) / 2)) (f (b + 12)) (((8 + q) / 2) / 2)) (k := (((8 + q) / 2) / 2) / 2) ) ⟨callB_of 3 hts (gd kw_75) rfl rfl rfl (hts _ kw_37) (hts _ kw_228) (by decide +kernel) ⟨Nat.le_of_ble_eq_true rfl, Nat.le_of_ble_eq_true rfl⟩, (hts _ kw_74)⟩ ⟨fun a U g mk q => by obtain ⟨q0, qP, qK⟩ := q; exact ⟨q0, qP, qK.call⟩, fun U hU hW => ⟨rfl, by rw [hU]; exact hP.sub [] rfl, hKN.warm hW⟩⟩ rfl rfl hl.1 rfl (lv_room (Nat.le_of_ble_eq_true rfl)) d_Sg_top_70 ⟨Nat.zero_le _, Nat.zero_le _⟩) ?_
                    refine lv_istore (lv' := [(4, .int (ab (f (b + 13)) (ab (ab (f (b + 11)) lf ((8 + q) / 2)) (f (b + 12)) (((8 + q) / 2) / 2)) ((((8 + q) / 2) / 2) / 2))), (3, .int (nI ((((8 + q) / 2) / 2) / 2))), (7, .int (nI 0)), (6, .int (f (b + 13))), (5, .int (nI 2)), (0, .ref ha), (1, .int (nI b)), (2, .int lf)]) hx hb d_Sg_top_73 hl (by decide) rfl (fun ls hl => ?_)
                    refine lv_iinc (k := 4) (v := (nI 3)) (lv' := [(5, .int (nI 3)), (4, .int (ab (f (b + 13)) (ab (ab (f (b + 11)) lf ((8 + q) / 2)) (f (b + 12)) (((8 + q) / 2) / 2)) ((((8 + q) / 2) / 2) / 2))), (3, .int (nI ((((8 + q) / 2) / 2) / 2))), (7, .int (nI 0)), (6, .int (f (b + 13))), (0, .ref ha), (1, .int (nI b)), (2, .int lf)]) hx hb d_Sg_top_75 hl rfl (by decide) (by decide) rfl (fun ls hl => ?_)
                    refine lv_goto (tgt := 15) hx hb d_Sg_top_78 (by decide) ?_
                    refine lv_iload hx hb d_Sg_top_15 (lv_at hl 0 rfl) ?_
                    refine lv_iconst (v := (nI 3)) hx hb d_Sg_top_17 (by decide) ?_
                    refine nb_ge (tgt := 81) hx hb d_Sg_top_18 (by decide) (by decide) (by decide) (fun h_17 => ?_) (fun h_17 => ?_)
                    · refine lv_iload hx hb d_Sg_top_81 (lv_at hl 1 rfl) ?_
                      exact W.iret (v := (ab (f (b + 13)) (ab (ab (f (b + 11)) lf ((8 + q) / 2)) (f (b + 12)) (((8 + q) / 2) / 2)) ((((8 + q) / 2) / 2) / 2))) hx hb hr (fun t ht hW => ⟨_, rfl, (by first | rfl | (simp only [sgTop, up1, if_neg h_2, if_pos h_5, if_neg h_15]; done) | (simp only [sgTop, up1, if_neg h_2, if_pos h_5, if_neg h_15]; rfl) | (simp [sgTop, up1, h_2, h_5, h_15]; done)), ht⟩) (fun q h => by cases h) d_Sg_top_83
                    · exact absurd h_17 (by decide)
                  · exact absurd h_16 (by decide)
                · refine lv_iconst (v := (nI 1)) hx hb d_Sg_top_38 (by decide) ?_
                  refine lv_goto (tgt := 43) hx hb d_Sg_top_39 (by decide) ?_
                  refine lv_istore (lv' := [(7, .int (nI 1)), (6, .int (f (b + 13))), (5, .int (nI 2)), (4, .int (ab (ab (f (b + 11)) lf ((8 + q) / 2)) (f (b + 12)) (((8 + q) / 2) / 2))), (3, .int (nI (((8 + q) / 2) / 2))), (0, .ref ha), (1, .int (nI b)), (2, .int lf)]) hx hb d_Sg_top_43 hl (by decide) rfl (fun ls hl => ?_)
                  refine lv_iload_n hx hb d_Sg_top_45 rfl (lv_at hl 4 rfl) ?_
                  refine lv_iconst (v := (nI 2)) hx hb d_Sg_top_46 (by decide) ?_
                  refine lv_idiv hx hb d_Sg_top_47 (by decide) ?_
                  refine tp (pk_div (by omega) (by decide) (by decide)) ?_
                  refine lv_istore_n (lv' := [(3, .int (nI ((((8 + q) / 2) / 2) / 2))), (7, .int (nI 1)), (6, .int (f (b + 13))), (5, .int (nI 2)), (4, .int (ab (ab (f (b + 11)) lf ((8 + q) / 2)) (f (b + 12)) (((8 + q) / 2) / 2))), (0, .ref ha), (1, .int (nI b)), (2, .int lf)]) hx hb d_Sg_top_48 rfl hl (by decide) rfl (fun ls hl => ?_)
                  refine lv_iload hx hb d_Sg_top_49 (lv_at hl 1 rfl) ?_
                  refine nz_eq (tgt := 65) hx hb d_Sg_top_51 (by decide) (by decide) (fun h_18 => ?_) (fun h_18 => ?_)
                  · exact absurd h_18 (by decide)
                  · refine lv_iload hx hb d_Sg_top_54 (lv_at hl 4 rfl) ?_
                    refine lv_iload hx hb d_Sg_top_56 (lv_at hl 2 rfl) ?_
                    refine lv_iload_n hx hb d_Sg_top_58 rfl (lv_at hl 0 rfl) ?_
                    refine pr_call (va_runS (As := [.int (ab (ab (f (b + 11)) lf ((8 + q) / 2)) (f (b + 12)) (((8 + q) / 2) / 2)), .int (f (b + 13)), .int (nI ((((8 + q) / 2) / 2) / 2))]) (rest := []) ⟨hx, hb, hml, hown, hts⟩ (c_Sg_above l dC dI cI (a := ab (ab (f (b + 11)) lf ((8 + q) / 2)) (f (b + 12)) (((8 + q) / 2) / 2)) (b := f (b + 13)) (k := (((8 + q) / 2) / 2) / 2) ) ⟨callB_of 3 hts (gd kw_75) rfl rfl rfl (hts _ kw_37) (hts _ kw_228) (by decide +kernel) ⟨Nat.le_of_ble_eq_true rfl, Nat.le_of_ble_eq_true rfl⟩, (hts _ kw_74)⟩ ⟨fun a U g mk q => by obtain ⟨q0, qP, qK⟩ := q; exact ⟨q0, qP, qK.call⟩, fun U hU hW => ⟨rfl, by rw [hU]; exact hP.sub [] rfl, hKN.warm hW⟩⟩ rfl rfl hl.1 rfl (lv_room (Nat.le_of_ble_eq_true rfl)) d_Sg_top_59 ⟨Nat.zero_le _, Nat.zero_le _⟩) ?_
                    refine lv_goto (tgt := 73) hx hb d_Sg_top_62 (by decide) ?_
                    refine lv_istore (lv' := [(4, .int (ab (ab (ab (f (b + 11)) lf ((8 + q) / 2)) (f (b + 12)) (((8 + q) / 2) / 2)) (f (b + 13)) ((((8 + q) / 2) / 2) / 2))), (3, .int (nI ((((8 + q) / 2) / 2) / 2))), (7, .int (nI 1)), (6, .int (f (b + 13))), (5, .int (nI 2)), (0, .ref ha), (1, .int (nI b)), (2, .int lf)]) hx hb d_Sg_top_73 hl (by decide) rfl (fun ls hl => ?_)
                    refine lv_iinc (k := 4) (v := (nI 3)) (lv' := [(5, .int (nI 3)), (4, .int (ab (ab (ab (f (b + 11)) lf ((8 + q) / 2)) (f (b + 12)) (((8 + q) / 2) / 2)) (f (b + 13)) ((((8 + q) / 2) / 2) / 2))), (3, .int (nI ((((8 + q) / 2) / 2) / 2))), (7, .int (nI 1)), (6, .int (f (b + 13))), (0, .ref ha), (1, .int (nI b)), (2, .int lf)]) hx hb d_Sg_top_75 hl rfl (by decide) (by decide) rfl (fun ls hl => ?_)
                    refine lv_goto (tgt := 15) hx hb d_Sg_top_78 (by decide) ?_
                    refine lv_iload hx hb d_Sg_top_15 (lv_at hl 0 rfl) ?_
                    refine lv_iconst (v := (nI 3)) hx hb d_Sg_top_17 (by decide) ?_
                    refine nb_ge (tgt := 81) hx hb d_Sg_top_18 (by decide) (by decide) (by decide) (fun h_19 => ?_) (fun h_19 => ?_)
                    · refine lv_iload hx hb d_Sg_top_81 (lv_at hl 1 rfl) ?_
                      exact W.iret (v := (ab (ab (ab (f (b + 11)) lf ((8 + q) / 2)) (f (b + 12)) (((8 + q) / 2) / 2)) (f (b + 13)) ((((8 + q) / 2) / 2) / 2))) hx hb hr (fun t ht hW => ⟨_, rfl, (by first | rfl | (simp only [sgTop, up1, if_neg h_2, if_pos h_5, if_pos h_15]; done) | (simp only [sgTop, up1, if_neg h_2, if_pos h_5, if_pos h_15]; rfl) | (simp [sgTop, up1, h_2, h_5, h_15]; done)), ht⟩) (fun q h => by cases h) d_Sg_top_83
                    · exact absurd h_19 (by decide)
      · exact absurd h_3 (by decide)
    · refine lv_iconst (v := (nI 1)) hx hb d_Sg_top_38 (by decide) ?_
      refine lv_goto (tgt := 43) hx hb d_Sg_top_39 (by decide) ?_
      refine lv_istore (lv' := [(7, .int (nI 1)), (6, .int (f (b + 11))), (5, .int (nI 0)), (4, .int lf), (3, .int (nI (8 + q))), (0, .ref ha), (1, .int (nI b)), (2, .int lf)]) hx hb d_Sg_top_43 hl (by decide) rfl (fun ls hl => ?_)
      refine lv_iload_n hx hb d_Sg_top_45 rfl (lv_at hl 4 rfl) ?_
      refine lv_iconst (v := (nI 2)) hx hb d_Sg_top_46 (by decide) ?_
      refine lv_idiv hx hb d_Sg_top_47 (by decide) ?_
      refine tp (pk_div (by omega) (by decide) (by decide)) ?_
      refine lv_istore_n (lv' := [(3, .int (nI ((8 + q) / 2))), (7, .int (nI 1)), (6, .int (f (b + 11))), (5, .int (nI 0)), (4, .int lf), (0, .ref ha), (1, .int (nI b)), (2, .int lf)]) hx hb d_Sg_top_48 rfl hl (by decide) rfl (fun ls hl => ?_)
      refine lv_iload hx hb d_Sg_top_49 (lv_at hl 1 rfl) ?_
      refine nz_eq (tgt := 65) hx hb d_Sg_top_51 (by decide) (by decide) (fun h_20 => ?_) (fun h_20 => ?_)
      · exact absurd h_20 (by decide)
      · refine lv_iload hx hb d_Sg_top_54 (lv_at hl 4 rfl) ?_
        refine lv_iload hx hb d_Sg_top_56 (lv_at hl 2 rfl) ?_
        refine lv_iload_n hx hb d_Sg_top_58 rfl (lv_at hl 0 rfl) ?_
        refine pr_call (va_runS (As := [.int lf, .int (f (b + 11)), .int (nI ((8 + q) / 2))]) (rest := []) ⟨hx, hb, hml, hown, hts⟩ (c_Sg_above l dC dI cI (a := lf) (b := f (b + 11)) (k := (8 + q) / 2) ) ⟨callB_of 3 hts (gd kw_75) rfl rfl rfl (hts _ kw_37) (hts _ kw_228) (by decide +kernel) ⟨Nat.le_of_ble_eq_true rfl, Nat.le_of_ble_eq_true rfl⟩, (hts _ kw_74)⟩ ⟨fun a U g mk q => by obtain ⟨q0, qP, qK⟩ := q; exact ⟨q0, qP, qK.call⟩, fun U hU hW => ⟨rfl, by rw [hU]; exact hP.sub [] rfl, hKN.warm hW⟩⟩ rfl rfl hl.1 rfl (lv_room (Nat.le_of_ble_eq_true rfl)) d_Sg_top_59 ⟨Nat.zero_le _, Nat.zero_le _⟩) ?_
        refine lv_goto (tgt := 73) hx hb d_Sg_top_62 (by decide) ?_
        refine lv_istore (lv' := [(4, .int (ab lf (f (b + 11)) ((8 + q) / 2))), (3, .int (nI ((8 + q) / 2))), (7, .int (nI 1)), (6, .int (f (b + 11))), (5, .int (nI 0)), (0, .ref ha), (1, .int (nI b)), (2, .int lf)]) hx hb d_Sg_top_73 hl (by decide) rfl (fun ls hl => ?_)
        refine lv_iinc (k := 4) (v := (nI 1)) (lv' := [(5, .int (nI 1)), (4, .int (ab lf (f (b + 11)) ((8 + q) / 2))), (3, .int (nI ((8 + q) / 2))), (7, .int (nI 1)), (6, .int (f (b + 11))), (0, .ref ha), (1, .int (nI b)), (2, .int lf)]) hx hb d_Sg_top_75 hl rfl (by decide) (by decide) rfl (fun ls hl => ?_)
        refine lv_goto (tgt := 15) hx hb d_Sg_top_78 (by decide) ?_
        refine lv_iload hx hb d_Sg_top_15 (lv_at hl 0 rfl) ?_
        refine lv_iconst (v := (nI 3)) hx hb d_Sg_top_17 (by decide) ?_
        refine nb_ge (tgt := 81) hx hb d_Sg_top_18 (by decide) (by decide) (by decide) (fun h_21 => ?_) (fun h_21 => ?_)
        · exact absurd h_21 (by decide)
        · refine lv_aload_n hx hb d_Sg_top_21 rfl (lv_at hl 5 rfl) ?_
          refine lv_iload_n hx hb d_Sg_top_22 rfl (lv_at hl 6 rfl) ?_
          refine lv_bipush (v := (nI 11)) hx hb d_Sg_top_23 (by decide) ?_
          refine lv_iadd hx hb d_Sg_top_25 ?_
          refine tp (nI_add _ _) ?_
          refine lv_iload hx hb d_Sg_top_26 (lv_at hl 0 rfl) ?_
          refine lv_iadd hx hb d_Sg_top_28 ?_
          refine tp (y := (nI (b + 12))) (nI_add _ _) ?_
          refine ar_ld (k := b + 12) hx hb hK hP 0 0 rfl rfl (by omega) (by first | decide | omega) d_Sg_top_29 ?_
          refine lv_istore (lv' := [(6, .int (f (b + 12))), (5, .int (nI 1)), (4, .int (ab lf (f (b + 11)) ((8 + q) / 2))), (3, .int (nI ((8 + q) / 2))), (7, .int (nI 1)), (0, .ref ha), (1, .int (nI b)), (2, .int lf)]) hx hb d_Sg_top_30 hl (by decide) rfl (fun ls hl => ?_)
          refine lv_iload_n hx hb d_Sg_top_32 rfl (lv_at hl 3 rfl) ?_
          refine lv_iconst (v := (nI 2)) hx hb d_Sg_top_33 (by decide) ?_
          refine lv_irem hx hb d_Sg_top_34 (by decide) ?_
          refine tp (pk_rem (by omega) (by decide) (by decide)) ?_
          refine nz_ne (tgt := 42) hx hb d_Sg_top_35 (by decide) (by omega) (fun h_22 => ?_) (fun h_22 => ?_)
          · refine lv_iconst (v := (nI 0)) hx hb d_Sg_top_42 (by decide) ?_
            refine lv_istore (lv' := [(7, .int (nI 0)), (6, .int (f (b + 12))), (5, .int (nI 1)), (4, .int (ab lf (f (b + 11)) ((8 + q) / 2))), (3, .int (nI ((8 + q) / 2))), (0, .ref ha), (1, .int (nI b)), (2, .int lf)]) hx hb d_Sg_top_43 hl (by decide) rfl (fun ls hl => ?_)
            refine lv_iload_n hx hb d_Sg_top_45 rfl (lv_at hl 4 rfl) ?_
            refine lv_iconst (v := (nI 2)) hx hb d_Sg_top_46 (by decide) ?_
            refine lv_idiv hx hb d_Sg_top_47 (by decide) ?_
            refine tp (pk_div (by omega) (by decide) (by decide)) ?_
            refine lv_istore_n (lv' := [(3, .int (nI (((8 + q) / 2) / 2))), (7, .int (nI 0)), (6, .int (f (b + 12))), (5, .int (nI 1)), (4, .int (ab lf (f (b + 11)) ((8 + q) / 2))), (0, .ref ha), (1, .int (nI b)), (2, .int lf)]) hx hb d_Sg_top_48 rfl hl (by decide) rfl (fun ls hl => ?_)
            refine lv_iload hx hb d_Sg_top_49 (lv_at hl 1 rfl) ?_
            refine nz_eq (tgt := 65) hx hb d_Sg_top_51 (by decide) (by decide) (fun h_23 => ?_) (fun h_23 => ?_)
            · refine lv_iload hx hb d_Sg_top_65 (lv_at hl 2 rfl) ?_
              refine lv_iload hx hb d_Sg_top_67 (lv_at hl 4 rfl) ?_
              refine lv_iload_n hx hb d_Sg_top_69 rfl (lv_at hl 0 rfl) ?_
              refine pr_call (va_runS (As := [.int (f (b + 12)), .int (ab lf (f (b + 11)) ((8 + q) / 2)), .int (nI (((8 + q) / 2) / 2))]) (rest := []) ⟨hx, hb, hml, hown, hts⟩ (c_Sg_above l dC dI cI (a := f (b + 12)) (b := ab lf (f (b + 11)) ((8 + q) / 2)) (k := ((8 + q) / 2) / 2) ) ⟨callB_of 3 hts (gd kw_75) rfl rfl rfl (hts _ kw_37) (hts _ kw_228) (by decide +kernel) ⟨Nat.le_of_ble_eq_true rfl, Nat.le_of_ble_eq_true rfl⟩, (hts _ kw_74)⟩ ⟨fun a U g mk q => by obtain ⟨q0, qP, qK⟩ := q; exact ⟨q0, qP, qK.call⟩, fun U hU hW => ⟨rfl, by rw [hU]; exact hP.sub [] rfl, hKN.warm hW⟩⟩ rfl rfl hl.1 rfl (lv_room (Nat.le_of_ble_eq_true rfl)) d_Sg_top_70 ⟨Nat.zero_le _, Nat.zero_le _⟩) ?_
              refine lv_istore (lv' := [(4, .int (ab (f (b + 12)) (ab lf (f (b + 11)) ((8 + q) / 2)) (((8 + q) / 2) / 2))), (3, .int (nI (((8 + q) / 2) / 2))), (7, .int (nI 0)), (6, .int (f (b + 12))), (5, .int (nI 1)), (0, .ref ha), (1, .int (nI b)), (2, .int lf)]) hx hb d_Sg_top_73 hl (by decide) rfl (fun ls hl => ?_)
              refine lv_iinc (k := 4) (v := (nI 2)) (lv' := [(5, .int (nI 2)), (4, .int (ab (f (b + 12)) (ab lf (f (b + 11)) ((8 + q) / 2)) (((8 + q) / 2) / 2))), (3, .int (nI (((8 + q) / 2) / 2))), (7, .int (nI 0)), (6, .int (f (b + 12))), (0, .ref ha), (1, .int (nI b)), (2, .int lf)]) hx hb d_Sg_top_75 hl rfl (by decide) (by decide) rfl (fun ls hl => ?_)
              refine lv_goto (tgt := 15) hx hb d_Sg_top_78 (by decide) ?_
              refine lv_iload hx hb d_Sg_top_15 (lv_at hl 0 rfl) ?_
              refine lv_iconst (v := (nI 3)) hx hb d_Sg_top_17 (by decide) ?_
              refine nb_ge (tgt := 81) hx hb d_Sg_top_18 (by decide) (by decide) (by decide) (fun h_24 => ?_) (fun h_24 => ?_)
              · exact absurd h_24 (by decide)
              · refine lv_aload_n hx hb d_Sg_top_21 rfl (lv_at hl 5 rfl) ?_
                refine lv_iload_n hx hb d_Sg_top_22 rfl (lv_at hl 6 rfl) ?_
                refine lv_bipush (v := (nI 11)) hx hb d_Sg_top_23 (by decide) ?_
                refine lv_iadd hx hb d_Sg_top_25 ?_
                refine tp (nI_add _ _) ?_
                refine lv_iload hx hb d_Sg_top_26 (lv_at hl 0 rfl) ?_
                refine lv_iadd hx hb d_Sg_top_28 ?_
                refine tp (y := (nI (b + 13))) (nI_add _ _) ?_
                refine ar_ld (k := b + 13) hx hb hK hP 0 0 rfl rfl (by omega) (by first | decide | omega) d_Sg_top_29 ?_
                refine lv_istore (lv' := [(6, .int (f (b + 13))), (5, .int (nI 2)), (4, .int (ab (f (b + 12)) (ab lf (f (b + 11)) ((8 + q) / 2)) (((8 + q) / 2) / 2))), (3, .int (nI (((8 + q) / 2) / 2))), (7, .int (nI 0)), (0, .ref ha), (1, .int (nI b)), (2, .int lf)]) hx hb d_Sg_top_30 hl (by decide) rfl (fun ls hl => ?_)
                refine lv_iload_n hx hb d_Sg_top_32 rfl (lv_at hl 3 rfl) ?_
                refine lv_iconst (v := (nI 2)) hx hb d_Sg_top_33 (by decide) ?_
                refine lv_irem hx hb d_Sg_top_34 (by decide) ?_
                refine tp (pk_rem (by omega) (by decide) (by decide)) ?_
                refine nz_ne (tgt := 42) hx hb d_Sg_top_35 (by decide) (by omega) (fun h_25 => ?_) (fun h_25 => ?_)
                · refine lv_iconst (v := (nI 0)) hx hb d_Sg_top_42 (by decide) ?_
                  refine lv_istore (lv' := [(7, .int (nI 0)), (6, .int (f (b + 13))), (5, .int (nI 2)), (4, .int (ab (f (b + 12)) (ab lf (f (b + 11)) ((8 + q) / 2)) (((8 + q) / 2) / 2))), (3, .int (nI (((8 + q) / 2) / 2))), (0, .ref ha), (1, .int (nI b)), (2, .int lf)]) hx hb d_Sg_top_43 hl (by decide) rfl (fun ls hl => ?_)
                  refine lv_iload_n hx hb d_Sg_top_45 rfl (lv_at hl 4 rfl) ?_
                  refine lv_iconst (v := (nI 2)) hx hb d_Sg_top_46 (by decide) ?_
                  refine lv_idiv hx hb d_Sg_top_47 (by decide) ?_
                  refine tp (pk_div (by omega) (by decide) (by decide)) ?_
                  refine lv_istore_n (lv' := [(3, .int (nI ((((8 + q) / 2) / 2) / 2))), (7, .int (nI 0)), (6, .int (f (b + 13))), (5, .int (nI 2)), (4, .int (ab (f (b + 12)) (ab lf (f (b + 11)) ((8 + q) / 2)) (((8 + q) / 2) / 2))), (0, .ref ha), (1, .int (nI b)), (2, .int lf)]) hx hb d_Sg_top_48 rfl hl (by decide) rfl (fun ls hl => ?_)
                  refine lv_iload hx hb d_Sg_top_49 (lv_at hl 1 rfl) ?_
                  refine nz_eq (tgt := 65) hx hb d_Sg_top_51 (by decide) (by decide) (fun h_26 => ?_) (fun h_26 => ?_)
                  · refine lv_iload hx hb d_Sg_top_65 (lv_at hl 2 rfl) ?_
                    refine lv_iload hx hb d_Sg_top_67 (lv_at hl 4 rfl) ?_
                    refine lv_iload_n hx hb d_Sg_top_69 rfl (lv_at hl 0 rfl) ?_
                    refine pr_call (va_runS (As := [.int (f (b + 13)), .int (ab (f (b + 12)) (ab lf (f (b + 11)) ((8 + q) / 2)) (((8 + q) / 2) / 2)), .int (nI ((((8 + q) / 2) / 2) / 2))]) (rest := []) ⟨hx, hb, hml, hown, hts⟩ (c_Sg_above l dC dI cI (a := f (b + 13)) (b := ab (f (b + 12)) (ab lf (f (b + 11)) ((8 + q) / 2)) (((8 + q) / 2) / 2)) (k := (((8 + q) / 2) / 2) / 2) ) ⟨callB_of 3 hts (gd kw_75) rfl rfl rfl (hts _ kw_37) (hts _ kw_228) (by decide +kernel) ⟨Nat.le_of_ble_eq_true rfl, Nat.le_of_ble_eq_true rfl⟩, (hts _ kw_74)⟩ ⟨fun a U g mk q => by obtain ⟨q0, qP, qK⟩ := q; exact ⟨q0, qP, qK.call⟩, fun U hU hW => ⟨rfl, by rw [hU]; exact hP.sub [] rfl, hKN.warm hW⟩⟩ rfl rfl hl.1 rfl (lv_room (Nat.le_of_ble_eq_true rfl)) d_Sg_top_70 ⟨Nat.zero_le _, Nat.zero_le _⟩) ?_
                    refine lv_istore (lv' := [(4, .int (ab (f (b + 13)) (ab (f (b + 12)) (ab lf (f (b + 11)) ((8 + q) / 2)) (((8 + q) / 2) / 2)) ((((8 + q) / 2) / 2) / 2))), (3, .int (nI ((((8 + q) / 2) / 2) / 2))), (7, .int (nI 0)), (6, .int (f (b + 13))), (5, .int (nI 2)), (0, .ref ha), (1, .int (nI b)), (2, .int lf)]) hx hb d_Sg_top_73 hl (by decide) rfl (fun ls hl => ?_)
                    refine lv_iinc (k := 4) (v := (nI 3)) (lv' := [(5, .int (nI 3)), (4, .int (ab (f (b + 13)) (ab (f (b + 12)) (ab lf (f (b + 11)) ((8 + q) / 2)) (((8 + q) / 2) / 2)) ((((8 + q) / 2) / 2) / 2))), (3, .int (nI ((((8 + q) / 2) / 2) / 2))), (7, .int (nI 0)), (6, .int (f (b + 13))), (0, .ref ha), (1, .int (nI b)), (2, .int lf)]) hx hb d_Sg_top_75 hl rfl (by decide) (by decide) rfl (fun ls hl => ?_)
                    refine lv_goto (tgt := 15) hx hb d_Sg_top_78 (by decide) ?_
                    refine lv_iload hx hb d_Sg_top_15 (lv_at hl 0 rfl) ?_
                    refine lv_iconst (v := (nI 3)) hx hb d_Sg_top_17 (by decide) ?_
                    refine nb_ge (tgt := 81) hx hb d_Sg_top_18 (by decide) (by decide) (by decide) (fun h_27 => ?_) (fun h_27 => ?_)
                    · refine lv_iload hx hb d_Sg_top_81 (lv_at hl 1 rfl) ?_
                      exact W.iret (v := (ab (f (b + 13)) (ab (f (b + 12)) (ab lf (f (b + 11)) ((8 + q) / 2)) (((8 + q) / 2) / 2)) ((((8 + q) / 2) / 2) / 2))) hx hb hr (fun t ht hW => ⟨_, rfl, (by first | rfl | (simp only [sgTop, up1, if_pos h_2, if_neg h_22, if_neg h_25]; done) | (simp only [sgTop, up1, if_pos h_2, if_neg h_22, if_neg h_25]; rfl) | (simp [sgTop, up1, h_2, h_22, h_25]; done)), ht⟩) (fun q h => by cases h) d_Sg_top_83
                    · exact absurd h_27 (by decide)
                  · exact absurd h_26 (by decide)
                · refine lv_iconst (v := (nI 1)) hx hb d_Sg_top_38 (by decide) ?_
                  refine lv_goto (tgt := 43) hx hb d_Sg_top_39 (by decide) ?_
                  refine lv_istore (lv' := [(7, .int (nI 1)), (6, .int (f (b + 13))), (5, .int (nI 2)), (4, .int (ab (f (b + 12)) (ab lf (f (b + 11)) ((8 + q) / 2)) (((8 + q) / 2) / 2))), (3, .int (nI (((8 + q) / 2) / 2))), (0, .ref ha), (1, .int (nI b)), (2, .int lf)]) hx hb d_Sg_top_43 hl (by decide) rfl (fun ls hl => ?_)
                  refine lv_iload_n hx hb d_Sg_top_45 rfl (lv_at hl 4 rfl) ?_
                  refine lv_iconst (v := (nI 2)) hx hb d_Sg_top_46 (by decide) ?_
                  refine lv_idiv hx hb d_Sg_top_47 (by decide) ?_
                  refine tp (pk_div (by omega) (by decide) (by decide)) ?_
                  refine lv_istore_n (lv' := [(3, .int (nI ((((8 + q) / 2) / 2) / 2))), (7, .int (nI 1)), (6, .int (f (b + 13))), (5, .int (nI 2)), (4, .int (ab (f (b + 12)) (ab lf (f (b + 11)) ((8 + q) / 2)) (((8 + q) / 2) / 2))), (0, .ref ha), (1, .int (nI b)), (2, .int lf)]) hx hb d_Sg_top_48 rfl hl (by decide) rfl (fun ls hl => ?_)
                  refine lv_iload hx hb d_Sg_top_49 (lv_at hl 1 rfl) ?_
                  refine nz_eq (tgt := 65) hx hb d_Sg_top_51 (by decide) (by decide) (fun h_28 => ?_) (fun h_28 => ?_)
                  · exact absurd h_28 (by decide)
                  · refine lv_iload hx hb d_Sg_top_54 (lv_at hl 4 rfl) ?_
                    refine lv_iload hx hb d_Sg_top_56 (lv_at hl 2 rfl) ?_
                    refine lv_iload_n hx hb d_Sg_top_58 rfl (lv_at hl 0 rfl) ?_
                    refine pr_call (va_runS (As := [.int (ab (f (b + 12)) (ab lf (f (b + 11)) ((8 + q) / 2)) (((8 + q) / 2) / 2)), .int (f (b + 13)), .int (nI ((((8 + q) / 2) / 2) / 2))]) (rest := []) ⟨hx, hb, hml, hown, hts⟩ (c_Sg_above l dC dI cI (a := ab (f (b + 12)) (ab lf (f (b + 11)) ((8 + q) / 2)) (((8 + q) / 2) / 2)) (b := f (b + 13)) (k := (((8 + q) / 2) / 2) / 2) ) ⟨callB_of 3 hts (gd kw_75) rfl rfl rfl (hts _ kw_37) (hts _ kw_228) (by decide +kernel) ⟨Nat.le_of_ble_eq_true rfl, Nat.le_of_ble_eq_true rfl⟩, (hts _ kw_74)⟩ ⟨fun a U g mk q => by obtain ⟨q0, qP, qK⟩ := q; exact ⟨q0, qP, qK.call⟩, fun U hU hW => ⟨rfl, by rw [hU]; exact hP.sub [] rfl, hKN.warm hW⟩⟩ rfl rfl hl.1 rfl (lv_room (Nat.le_of_ble_eq_true rfl)) d_Sg_top_59 ⟨Nat.zero_le _, Nat.zero_le _⟩) ?_
                    refine lv_goto (tgt := 73) hx hb d_Sg_top_62 (by decide) ?_
                    refine lv_istore (lv' := [(4, .int (ab (ab (f (b + 12)) (ab lf (f (b + 11)) ((8 + q) / 2)) (((8 + q) / 2) / 2)) (f (b + 13)) ((((8 + q) / 2) / 2) / 2))), (3, .int (nI ((((8 + q) / 2) / 2) / 2))), (7, .int (nI 1)), (6, .int (f (b + 13))), (5, .int (nI 2)), (0, .ref ha), (1, .int (nI b)), (2, .int lf)]) hx hb d_Sg_top_73 hl (by decide) rfl (fun ls hl => ?_)
                    refine lv_iinc (k := 4) (v := (nI 3)) (lv' := [(5, .int (nI 3)), (4, .int (ab (ab (f (b + 12)) (ab lf (f (b + 11)) ((8 + q) / 2)) (((8 + q) / 2) / 2)) (f (b + 13)) ((((8 + q) / 2) / 2) / 2))), (3, .int (nI ((((8 + q) / 2) / 2) / 2))), (7, .int (nI 1)), (6, .int (f (b + 13))), (0, .ref ha), (1, .int (nI b)), (2, .int lf)]) hx hb d_Sg_top_75 hl rfl (by decide) (by decide) rfl (fun ls hl => ?_)
                    refine lv_goto (tgt := 15) hx hb d_Sg_top_78 (by decide) ?_
                    refine lv_iload hx hb d_Sg_top_15 (lv_at hl 0 rfl) ?_
                    refine lv_iconst (v := (nI 3)) hx hb d_Sg_top_17 (by decide) ?_
                    refine nb_ge (tgt := 81) hx hb d_Sg_top_18 (by decide) (by decide) (by decide) (fun h_29 => ?_) (fun h_29 => ?_)
                    · refine lv_iload hx hb d_Sg_top_81 (lv_at hl 1 rfl) ?_
                      exact W.iret (v := (ab (ab (f (b + 12)) (ab lf (f (b + 11)) ((8 + q) / 2)) (((8 + q) / 2) / 2)) (f (b + 13)) ((((8 + q) / 2) / 2) / 2))) hx hb hr (fun t ht hW => ⟨_, rfl, (by first | rfl | (simp only [sgTop, up1, if_pos h_2, if_neg h_22, if_pos h_25]; done) | (simp only [sgTop, up1, if_pos h_2, if_neg h_22, if_pos h_25]; rfl) | (simp [sgTop, up1, h_2, h_22, h_25]; done)), ht⟩) (fun q h => by cases h) d_Sg_top_83
                    · exact absurd h_29 (by decide)
            · exact absurd h_23 (by decide)
          · refine lv_iconst (v := (nI 1)) hx hb d_Sg_top_38 (by decide) ?_
            refine lv_goto (tgt := 43) hx hb d_Sg_top_39 (by decide) ?_
            refine lv_istore (lv' := [(7, .int (nI 1)), (6, .int (f (b + 12))), (5, .int (nI 1)), (4, .int (ab lf (f (b + 11)) ((8 + q) / 2))), (3, .int (nI ((8 + q) / 2))), (0, .ref ha), (1, .int (nI b)), (2, .int lf)]) hx hb d_Sg_top_43 hl (by decide) rfl (fun ls hl => ?_)
            refine lv_iload_n hx hb d_Sg_top_45 rfl (lv_at hl 4 rfl) ?_
            refine lv_iconst (v := (nI 2)) hx hb d_Sg_top_46 (by decide) ?_
            refine lv_idiv hx hb d_Sg_top_47 (by decide) ?_
            refine tp (pk_div (by omega) (by decide) (by decide)) ?_
            refine lv_istore_n (lv' := [(3, .int (nI (((8 + q) / 2) / 2))), (7, .int (nI 1)), (6, .int (f (b + 12))), (5, .int (nI 1)), (4, .int (ab lf (f (b + 11)) ((8 + q) / 2))), (0, .ref ha), (1, .int (nI b)), (2, .int lf)]) hx hb d_Sg_top_48 rfl hl (by decide) rfl (fun ls hl => ?_)
            refine lv_iload hx hb d_Sg_top_49 (lv_at hl 1 rfl) ?_
            refine nz_eq (tgt := 65) hx hb d_Sg_top_51 (by decide) (by decide) (fun h_30 => ?_) (fun h_30 => ?_)
            · exact absurd h_30 (by decide)
            · refine lv_iload hx hb d_Sg_top_54 (lv_at hl 4 rfl) ?_
              refine lv_iload hx hb d_Sg_top_56 (lv_at hl 2 rfl) ?_
              refine lv_iload_n hx hb d_Sg_top_58 rfl (lv_at hl 0 rfl) ?_
              refine pr_call (va_runS (As := [.int (ab lf (f (b + 11)) ((8 + q) / 2)), .int (f (b + 12)), .int (nI (((8 + q) / 2) / 2))]) (rest := []) ⟨hx, hb, hml, hown, hts⟩ (c_Sg_above l dC dI cI (a := ab lf (f (b + 11)) ((8 + q) / 2)) (b := f (b + 12)) (k := ((8 + q) / 2) / 2) ) ⟨callB_of 3 hts (gd kw_75) rfl rfl rfl (hts _ kw_37) (hts _ kw_228) (by decide +kernel) ⟨Nat.le_of_ble_eq_true rfl, Nat.le_of_ble_eq_true rfl⟩, (hts _ kw_74)⟩ ⟨fun a U g mk q => by obtain ⟨q0, qP, qK⟩ := q; exact ⟨q0, qP, qK.call⟩, fun U hU hW => ⟨rfl, by rw [hU]; exact hP.sub [] rfl, hKN.warm hW⟩⟩ rfl rfl hl.1 rfl (lv_room (Nat.le_of_ble_eq_true rfl)) d_Sg_top_59 ⟨Nat.zero_le _, Nat.zero_le _⟩) ?_
              refine lv_goto (tgt := 73) hx hb d_Sg_top_62 (by decide) ?_
              refine lv_istore (lv' := [(4, .int (ab (ab lf (f (b + 11)) ((8 + q) / 2)) (f (b + 12)) (((8 + q) / 2) / 2))), (3, .int (nI (((8 + q) / 2) / 2))), (7, .int (nI 1)), (6, .int (f (b + 12))), (5, .int (nI 1)), (0, .ref ha), (1, .int (nI b)), (2, .int lf)]) hx hb d_Sg_top_73 hl (by decide) rfl (fun ls hl => ?_)
              refine lv_iinc (k := 4) (v := (nI 2)) (lv' := [(5, .int (nI 2)), (4, .int (ab (ab lf (f (b + 11)) ((8 + q) / 2)) (f (b + 12)) (((8 + q) / 2) / 2))), (3, .int (nI (((8 + q) / 2) / 2))), (7, .int (nI 1)), (6, .int (f (b + 12))), (0, .ref ha), (1, .int (nI b)), (2, .int lf)]) hx hb d_Sg_top_75 hl rfl (by decide) (by decide) rfl (fun ls hl => ?_)
              refine lv_goto (tgt := 15) hx hb d_Sg_top_78 (by decide) ?_
              refine lv_iload hx hb d_Sg_top_15 (lv_at hl 0 rfl) ?_
              refine lv_iconst (v := (nI 3)) hx hb d_Sg_top_17 (by decide) ?_
              refine nb_ge (tgt := 81) hx hb d_Sg_top_18 (by decide) (by decide) (by decide) (fun h_31 => ?_) (fun h_31 => ?_)
              · exact absurd h_31 (by decide)
              · refine lv_aload_n hx hb d_Sg_top_21 rfl (lv_at hl 5 rfl) ?_
                refine lv_iload_n hx hb d_Sg_top_22 rfl (lv_at hl 6 rfl) ?_
                refine lv_bipush (v := (nI 11)) hx hb d_Sg_top_23 (by decide) ?_
                refine lv_iadd hx hb d_Sg_top_25 ?_
                refine tp (nI_add _ _) ?_
                refine lv_iload hx hb d_Sg_top_26 (lv_at hl 0 rfl) ?_
                refine lv_iadd hx hb d_Sg_top_28 ?_
                refine tp (y := (nI (b + 13))) (nI_add _ _) ?_
                refine ar_ld (k := b + 13) hx hb hK hP 0 0 rfl rfl (by omega) (by first | decide | omega) d_Sg_top_29 ?_
                refine lv_istore (lv' := [(6, .int (f (b + 13))), (5, .int (nI 2)), (4, .int (ab (ab lf (f (b + 11)) ((8 + q) / 2)) (f (b + 12)) (((8 + q) / 2) / 2))), (3, .int (nI (((8 + q) / 2) / 2))), (7, .int (nI 1)), (0, .ref ha), (1, .int (nI b)), (2, .int lf)]) hx hb d_Sg_top_30 hl (by decide) rfl (fun ls hl => ?_)
                refine lv_iload_n hx hb d_Sg_top_32 rfl (lv_at hl 3 rfl) ?_
                refine lv_iconst (v := (nI 2)) hx hb d_Sg_top_33 (by decide) ?_
                refine lv_irem hx hb d_Sg_top_34 (by decide) ?_
                refine tp (pk_rem (by omega) (by decide) (by decide)) ?_
                refine nz_ne (tgt := 42) hx hb d_Sg_top_35 (by decide) (by omega) (fun h_32 => ?_) (fun h_32 => ?_)
                · refine lv_iconst (v := (nI 0)) hx hb d_Sg_top_42 (by decide) ?_
                  refine lv_istore (lv' := [(7, .int (nI 0)), (6, .int (f (b + 13))), (5, .int (nI 2)), (4, .int (ab (ab lf (f (b + 11)) ((8 + q) / 2)) (f (b + 12)) (((8 + q) / 2) / 2))), (3, .int (nI (((8 + q) / 2) / 2))), (0, .ref ha), (1, .int (nI b)), (2, .int lf)]) hx hb d_Sg_top_43 hl (by decide) rfl (fun ls hl => ?_)
                  refine lv_iload_n hx hb d_Sg_top_45 rfl (lv_at hl 4 rfl) ?_
                  refine lv_iconst (v := (nI 2)) hx hb d_Sg_top_46 (by decide) ?_
                  refine lv_idiv hx hb d_Sg_top_47 (by decide) ?_
                  refine tp (pk_div (by omega) (by decide) (by decide)) ?_
                  refine lv_istore_n (lv' := [(3, .int (nI ((((8 + q) / 2) / 2) / 2))), (7, .int (nI 0)), (6, .int (f (b + 13))), (5, .int (nI 2)), (4, .int (ab (ab lf (f (b + 11)) ((8 + q) / 2)) (f (b + 12)) (((8 + q) / 2) / 2))), (0, .ref ha), (1, .int (nI b)), (2, .int lf)]) hx hb d_Sg_top_48 rfl hl (by decide) rfl (fun ls hl => ?_)
                  refine lv_iload hx hb d_Sg_top_49 (lv_at hl 1 rfl) ?_
                  refine nz_eq (tgt := 65) hx hb d_Sg_top_51 (by decide) (by decide) (fun h_33 => ?_) (fun h_33 => ?_)
                  · refine lv_iload hx hb d_Sg_top_65 (lv_at hl 2 rfl) ?_
                    refine lv_iload hx hb d_Sg_top_67 (lv_at hl 4 rfl) ?_
                    refine lv_iload_n hx hb d_Sg_top_69 rfl (lv_at hl 0 rfl) ?_
                    refine pr_call (va_runS (As := [.int (f (b + 13)), .int (ab (ab lf (f (b + 11)) ((8 + q) / 2)) (f (b + 12)) (((8 + q) / 2) / 2)), .int (nI ((((8 + q) / 2) / 2) / 2))]) (rest := []) ⟨hx, hb, hml, hown, hts⟩ (c_Sg_above l dC dI cI (a := f (b + 13)) (b := ab (ab lf (f (b + 11)) ((8 + q) / 2)) (f (b + 12)) (((8 + q) / 2) / 2)) (k := (((8 + q) / 2) / 2) / 2) ) ⟨callB_of 3 hts (gd kw_75) rfl rfl rfl (hts _ kw_37) (hts _ kw_228) (by decide +kernel) ⟨Nat.le_of_ble_eq_true rfl, Nat.le_of_ble_eq_true rfl⟩, (hts _ kw_74)⟩ ⟨fun a U g mk q => by obtain ⟨q0, qP, qK⟩ := q; exact ⟨q0, qP, qK.call⟩, fun U hU hW => ⟨rfl, by rw [hU]; exact hP.sub [] rfl, hKN.warm hW⟩⟩ rfl rfl hl.1 rfl (lv_room (Nat.le_of_ble_eq_true rfl)) d_Sg_top_70 ⟨Nat.zero_le _, Nat.zero_le _⟩) ?_
                    refine lv_istore (lv' := [(4, .int (ab (f (b + 13)) (ab (ab lf (f (b + 11)) ((8 + q) / 2)) (f (b + 12)) (((8 + q) / 2) / 2)) ((((8 + q) / 2) / 2) / 2))), (3, .int (nI ((((8 + q) / 2) / 2) / 2))), (7, .int (nI 0)), (6, .int (f (b + 13))), (5, .int (nI 2)), (0, .ref ha), (1, .int (nI b)), (2, .int lf)]) hx hb d_Sg_top_73 hl (by decide) rfl (fun ls hl => ?_)
                    refine lv_iinc (k := 4) (v := (nI 3)) (lv' := [(5, .int (nI 3)), (4, .int (ab (f (b + 13)) (ab (ab lf (f (b + 11)) ((8 + q) / 2)) (f (b + 12)) (((8 + q) / 2) / 2)) ((((8 + q) / 2) / 2) / 2))), (3, .int (nI ((((8 + q) / 2) / 2) / 2))), (7, .int (nI 0)), (6, .int (f (b + 13))), (0, .ref ha), (1, .int (nI b)), (2, .int lf)]) hx hb d_Sg_top_75 hl rfl (by decide) (by decide) rfl (fun ls hl => ?_)
                    refine lv_goto (tgt := 15) hx hb d_Sg_top_78 (by decide) ?_
                    refine lv_iload hx hb d_Sg_top_15 (lv_at hl 0 rfl) ?_
                    refine lv_iconst (v := (nI 3)) hx hb d_Sg_top_17 (by decide) ?_
                    refine nb_ge (tgt := 81) hx hb d_Sg_top_18 (by decide) (by decide) (by decide) (fun h_34 => ?_) (fun h_34 => ?_)
                    · refine lv_iload hx hb d_Sg_top_81 (lv_at hl 1 rfl) ?_
                      exact W.iret (v := (ab (f (b + 13)) (ab (ab lf (f (b + 11)) ((8 + q) / 2)) (f (b + 12)) (((8 + q) / 2) / 2)) ((((8 + q) / 2) / 2) / 2))) hx hb hr (fun t ht hW => ⟨_, rfl, (by first | rfl | (simp only [sgTop, up1, if_pos h_2, if_pos h_22, if_neg h_32]; done) | (simp only [sgTop, up1, if_pos h_2, if_pos h_22, if_neg h_32]; rfl) | (simp [sgTop, up1, h_2, h_22, h_32]; done)), ht⟩) (fun q h => by cases h) d_Sg_top_83
                    · exact absurd h_34 (by decide)
                  · exact absurd h_33 (by decide)
                · refine lv_iconst (v := (nI 1)) hx hb d_Sg_top_38 (by decide) ?_
                  refine lv_goto (tgt := 43) hx hb d_Sg_top_39 (by decide) ?_
                  refine lv_istore (lv' := [(7, .int (nI 1)), (6, .int (f (b + 13))), (5, .int (nI 2)), (4, .int (ab (ab lf (f (b + 11)) ((8 + q) / 2)) (f (b + 12)) (((8 + q) / 2) / 2))), (3, .int (nI (((8 + q) / 2) / 2))), (0, .ref ha), (1, .int (nI b)), (2, .int lf)]) hx hb d_Sg_top_43 hl (by decide) rfl (fun ls hl => ?_)
                  refine lv_iload_n hx hb d_Sg_top_45 rfl (lv_at hl 4 rfl) ?_
                  refine lv_iconst (v := (nI 2)) hx hb d_Sg_top_46 (by decide) ?_
                  refine lv_idiv hx hb d_Sg_top_47 (by decide) ?_
                  refine tp (pk_div (by omega) (by decide) (by decide)) ?_
                  refine lv_istore_n (lv' := [(3, .int (nI ((((8 + q) / 2) / 2) / 2))), (7, .int (nI 1)), (6, .int (f (b + 13))), (5, .int (nI 2)), (4, .int (ab (ab lf (f (b + 11)) ((8 + q) / 2)) (f (b + 12)) (((8 + q) / 2) / 2))), (0, .ref ha), (1, .int (nI b)), (2, .int lf)]) hx hb d_Sg_top_48 rfl hl (by decide) rfl (fun ls hl => ?_)
                  refine lv_iload hx hb d_Sg_top_49 (lv_at hl 1 rfl) ?_
                  refine nz_eq (tgt := 65) hx hb d_Sg_top_51 (by decide) (by decide) (fun h_35 => ?_) (fun h_35 => ?_)
                  · exact absurd h_35 (by decide)
                  · refine lv_iload hx hb d_Sg_top_54 (lv_at hl 4 rfl) ?_
                    refine lv_iload hx hb d_Sg_top_56 (lv_at hl 2 rfl) ?_
                    refine lv_iload_n hx hb d_Sg_top_58 rfl (lv_at hl 0 rfl) ?_
                    refine pr_call (va_runS (As := [.int (ab (ab lf (f (b + 11)) ((8 + q) / 2)) (f (b + 12)) (((8 + q) / 2) / 2)), .int (f (b + 13)), .int (nI ((((8 + q) / 2) / 2) / 2))]) (rest := []) ⟨hx, hb, hml, hown, hts⟩ (c_Sg_above l dC dI cI (a := ab (ab lf (f (b + 11)) ((8 + q) / 2)) (f (b + 12)) (((8 + q) / 2) / 2)) (b := f (b + 13)) (k := (((8 + q) / 2) / 2) / 2) ) ⟨callB_of 3 hts (gd kw_75) rfl rfl rfl (hts _ kw_37) (hts _ kw_228) (by decide +kernel) ⟨Nat.le_of_ble_eq_true rfl, Nat.le_of_ble_eq_true rfl⟩, (hts _ kw_74)⟩ ⟨fun a U g mk q => by obtain ⟨q0, qP, qK⟩ := q; exact ⟨q0, qP, qK.call⟩, fun U hU hW => ⟨rfl, by rw [hU]; exact hP.sub [] rfl, hKN.warm hW⟩⟩ rfl rfl hl.1 rfl (lv_room (Nat.le_of_ble_eq_true rfl)) d_Sg_top_59 ⟨Nat.zero_le _, Nat.zero_le _⟩) ?_
                    refine lv_goto (tgt := 73) hx hb d_Sg_top_62 (by decide) ?_
                    refine lv_istore (lv' := [(4, .int (ab (ab (ab lf (f (b + 11)) ((8 + q) / 2)) (f (b + 12)) (((8 + q) / 2) / 2)) (f (b + 13)) ((((8 + q) / 2) / 2) / 2))), (3, .int (nI ((((8 + q) / 2) / 2) / 2))), (7, .int (nI 1)), (6, .int (f (b + 13))), (5, .int (nI 2)), (0, .ref ha), (1, .int (nI b)), (2, .int lf)]) hx hb d_Sg_top_73 hl (by decide) rfl (fun ls hl => ?_)
                    refine lv_iinc (k := 4) (v := (nI 3)) (lv' := [(5, .int (nI 3)), (4, .int (ab (ab (ab lf (f (b + 11)) ((8 + q) / 2)) (f (b + 12)) (((8 + q) / 2) / 2)) (f (b + 13)) ((((8 + q) / 2) / 2) / 2))), (3, .int (nI ((((8 + q) / 2) / 2) / 2))), (7, .int (nI 1)), (6, .int (f (b + 13))), (0, .ref ha), (1, .int (nI b)), (2, .int lf)]) hx hb d_Sg_top_75 hl rfl (by decide) (by decide) rfl (fun ls hl => ?_)
                    refine lv_goto (tgt := 15) hx hb d_Sg_top_78 (by decide) ?_
                    refine lv_iload hx hb d_Sg_top_15 (lv_at hl 0 rfl) ?_
                    refine lv_iconst (v := (nI 3)) hx hb d_Sg_top_17 (by decide) ?_
                    refine nb_ge (tgt := 81) hx hb d_Sg_top_18 (by decide) (by decide) (by decide) (fun h_36 => ?_) (fun h_36 => ?_)
                    · refine lv_iload hx hb d_Sg_top_81 (lv_at hl 1 rfl) ?_
                      exact W.iret (v := (ab (ab (ab lf (f (b + 11)) ((8 + q) / 2)) (f (b + 12)) (((8 + q) / 2) / 2)) (f (b + 13)) ((((8 + q) / 2) / 2) / 2))) hx hb hr (fun t ht hW => ⟨_, rfl, (by first | rfl | (simp only [sgTop, up1, if_pos h_2, if_pos h_22, if_pos h_32]; done) | (simp only [sgTop, up1, if_pos h_2, if_pos h_22, if_pos h_32]; rfl) | (simp [sgTop, up1, h_2, h_22, h_32]; done)), ht⟩) (fun q h => by cases h) d_Sg_top_83
                    · exact absurd h_36 (by decide)
set_option maxHeartbeats 4000000 in
set_option maxRecDepth 100000 in
theorem c_Sg_isSigned (l : Launch) (dC : Nat → ClassId) (dI : Nat → Nat → Nat) (cI : ClassId) (ha : Nat) (b : Nat) (rt : Int32) (N : Nat) (f : Nat → Int32) (hN : N < 2 ^ 31) (hbN : b + 17 ≤ N) : Met l y_Sg_isSigned w_Sg_isSigned ({ frames := 3, cells := 0, slots := 0, locals := 72 }) (va_Pc [.ref ha, .int (nI b), .int rt] (fun U => va_P (dC, dI) classes [(ha, .inl (cI, N, .inl f))] U.heap ∧ KN dC dI cI U)) (qr (bI (sgOk (fun i => f (b + i)) rt))) 0 0 (fun _ => False) := by
  refine Met.ofW (cc := b_Sg_isSigned) (maxL := 4) (ret := (some .boolean)) (by decide) rfl ?_
  intro p e s m args below meth c s₁ B hml hv
  obtain ⟨rfl, hP, hKN⟩ := hv
  have hK := hKN.1
  have hx := B.exec
  have hb := B.bytes
  have hr := B.returns
  have hts := fun (w : Cond) (h : w ∈ gt) => atoms_spec (ws := w_Sg_isSigned) B.pre w (List.mem_cons_of_mem _ h)
  have hown : s.vm.findClass R_Sg = some m.cls := findClass_of_methodNamed B.named
  have hlocks := B.notSynchronized
  have hl := lv_entry ([.ref ha, .int (nI b), .int rt]) (n := 4) (Nat.le_of_ble_eq_true rfl)
  rw [lg_entry_eq]
  generalize (lg_sl ([.ref ha, .int (nI b), .int rt]) ++ List.replicate (4 - (lg_sl ([.ref ha, .int (nI b), .int rt])).length) Slot.unset).toArray = ls at hl ⊢
  have hl : lv_has ls 4 [(0, .ref ha), (1, .int (nI b)), (2, .int rt)] := hl
  refine lv_aload_n hx hb d_Sg_isSigned_0 rfl (lv_at hl 0 rfl) ?_
  refine lv_iload_n hx hb d_Sg_isSigned_1 rfl (lv_at hl 1 rfl) ?_
  refine lv_iconst (v := (nI 4)) hx hb d_Sg_isSigned_2 (by decide) ?_
  refine lv_iadd hx hb d_Sg_isSigned_3 ?_
  refine tp (nI_add _ _) ?_
  refine ar_ld (k := b + 4) hx hb hK hP 0 0 rfl rfl (by omega) (by first | decide | omega) d_Sg_isSigned_4 ?_
  refine lv_istore_n (lv' := [(3, .int (f (b + 4))), (0, .ref ha), (1, .int (nI b)), (2, .int rt)]) hx hb d_Sg_isSigned_5 rfl hl (by decide) rfl (fun ls hl => ?_)
  refine lv_iload_n hx hb d_Sg_isSigned_6 rfl (lv_at hl 0 rfl) ?_
  refine lv_if_lt (tgt := 35) hx hb d_Sg_isSigned_7 (by decide) (fun h_1 => ?_) (fun h_1 => ?_)
  · refine lv_iconst (v := (nI 0)) hx hb d_Sg_isSigned_35 (by decide) ?_
    exact W.zret (v := (bI false)) hx hb hr (bI_narrow _) (fun t ht hW => ⟨_, rfl, (by simp [sgOk, h_1]), ht⟩) (fun q h => by cases h) d_Sg_isSigned_36
  · refine lv_iload_n hx hb d_Sg_isSigned_10 rfl (lv_at hl 0 rfl) ?_
    refine lv_bipush (v := (nI 8)) hx hb d_Sg_isSigned_11 (by decide) ?_
    refine lv_icmp_ge (tgt := 35) hx hb d_Sg_isSigned_13 (by decide) (fun h_2 => ?_) (fun h_2 => ?_)
    · refine lv_iconst (v := (nI 0)) hx hb d_Sg_isSigned_35 (by decide) ?_
      exact W.zret (v := (bI false)) hx hb hr (bI_narrow _) (fun t ht hW => ⟨_, rfl, (by simp [sgOk, h_1, h_2]), ht⟩) (fun q h => by cases h) d_Sg_isSigned_36
    · obtain ⟨q, hq8, hq⟩ := key_nat h_1 h_2
      refine lv_aload_n hx hb d_Sg_isSigned_16 rfl (lv_at hl 1 rfl) ?_
      refine lv_iload_n hx hb d_Sg_isSigned_17 rfl (lv_at hl 2 rfl) ?_
      refine lv_aload_n hx hb d_Sg_isSigned_18 rfl (lv_at hl 1 rfl) ?_
      refine lv_iload_n hx hb d_Sg_isSigned_19 rfl (lv_at hl 2 rfl) ?_
      refine lv_iload_n hx hb d_Sg_isSigned_20 rfl (lv_at hl 0 rfl) ?_
      refine tp hq ?_
      refine pr_call (va_runS (As := [.ref ha, .int (nI b), .int (nI q)]) (rest := [.int (nI b), .ref ha]) ⟨hx, hb, hml, hown, hts⟩ (c_Sg_leaf l dC dI cI (ha := ha) (b := b) (q := q) (N := N) (f := f) (hN := (by omega)) (hbN := (by omega))) ⟨callB_of 3 hts (gd kw_221) rfl rfl rfl (hts _ kw_37) (hts _ kw_219) (by decide +kernel) ⟨Nat.le_of_ble_eq_true rfl, Nat.le_of_ble_eq_true rfl⟩, (hts _ kw_220)⟩ ⟨fun a U g mk q => by obtain ⟨q0, qP, qK⟩ := q; exact ⟨q0, qP, qK.call⟩, fun U hU hW => ⟨rfl, by rw [hU]; exact hP.sub [0] rfl, hKN.warm hW⟩⟩ rfl rfl hl.1 rfl (lv_room (Nat.le_of_ble_eq_true rfl)) d_Sg_isSigned_21 ⟨Nat.zero_le _, Nat.zero_le _⟩) ?_
      refine pr_call (va_runS (As := [.ref ha, .int (nI b), .int (sgLeaf (fun i => f (b + i)) q)]) (rest := []) ⟨hx, hb, hml, hown, hts⟩ (c_Sg_top l dC dI cI (ha := ha) (b := b) (lf := sgLeaf (fun i => f (b + i)) q) (N := N) (f := f) (q := q) (hN := (by omega)) (hbN := (by omega)) (hq8 := hq8) (hq := hq)) ⟨callB_of 3 hts (gd kw_227) rfl rfl rfl (hts _ kw_37) (hts _ kw_225) (by decide +kernel) ⟨Nat.le_of_ble_eq_true rfl, Nat.le_of_ble_eq_true rfl⟩, (hts _ kw_226)⟩ ⟨fun a U g mk q => by obtain ⟨q0, qP, qK⟩ := q; exact ⟨q0, qP, qK.call⟩, fun U hU hW => ⟨rfl, by rw [hU]; exact hP.sub [0] rfl, hKN.warm hW⟩⟩ rfl rfl hl.1 rfl (lv_room (Nat.le_of_ble_eq_true rfl)) d_Sg_isSigned_24 ⟨Nat.zero_le _, Nat.zero_le _⟩) ?_
      refine lv_iload_n hx hb d_Sg_isSigned_27 rfl (lv_at hl 3 rfl) ?_
      refine lv_icmp_ne (tgt := 35) hx hb d_Sg_isSigned_28 (by decide) (fun h_3 => ?_) (fun h_3 => ?_)
      · refine lv_iconst (v := (nI 0)) hx hb d_Sg_isSigned_35 (by decide) ?_
        exact W.zret (v := (bI false)) hx hb hr (bI_narrow _) (fun t ht hW => ⟨_, rfl, (by rw [sgOk_q (r := (fun i => f (b + i))) hq hq8]; simp [h_3]), ht⟩) (fun q h => by cases h) d_Sg_isSigned_36
      · refine lv_iconst (v := (nI 1)) hx hb d_Sg_isSigned_31 (by decide) ?_
        refine lv_goto (tgt := 36) hx hb d_Sg_isSigned_32 (by decide) ?_
        exact W.zret (v := (bI true)) hx hb hr (bI_narrow _) (fun t ht hW => ⟨_, rfl, (by rw [sgOk_q (r := (fun i => f (b + i))) hq hq8]; simp [h_3]), ht⟩) (fun q h => by cases h) d_Sg_isSigned_36
set_option maxHeartbeats 4000000 in
set_option maxRecDepth 100000 in
theorem c_PW_isStageWhole (l : Launch) (dC : Nat → ClassId) (dI : Nat → Nat → Nat) (cI : ClassId) (ha : Nat) (b : Nat) (k : Nat) (N : Nat) (f : Nat → Int32) (hN : N < 2 ^ 31) (hbN : b + 17 ≤ N) (hk : k < 3) : Met l y_PW_isStageWhole w_PW_isStageWhole ({ frames := 2, cells := 0, slots := 0, locals := 43 }) (va_Pc [.ref ha, .int (nI b), .int (nI k)] (fun U => va_P (dC, dI) classes [(ha, .inl (cI, N, .inl f))] U.heap ∧ KN dC dI cI U)) (qr (bI (stOk (fun i => f (b + i)) k))) 0 0 (fun _ => False) := by
  refine Met.ofW (cc := b_PW_isStageWhole) (maxL := 3) (ret := (some .boolean)) (by decide) rfl ?_
  intro p e s m args below meth c s₁ B hml hv
  obtain ⟨rfl, hP, hKN⟩ := hv
  have hK := hKN.1
  have hx := B.exec
  have hb := B.bytes
  have hr := B.returns
  have hts := fun (w : Cond) (h : w ∈ gt) => atoms_spec (ws := w_PW_isStageWhole) B.pre w (List.mem_cons_of_mem _ h)
  have hown : s.vm.findClass R_PW = some m.cls := findClass_of_methodNamed B.named
  have hlocks := B.notSynchronized
  have hl := lv_entry ([.ref ha, .int (nI b), .int (nI k)]) (n := 3) (Nat.le_of_ble_eq_true rfl)
  rw [lg_entry_eq]
  generalize (lg_sl ([.ref ha, .int (nI b), .int (nI k)]) ++ List.replicate (3 - (lg_sl ([.ref ha, .int (nI b), .int (nI k)])).length) Slot.unset).toArray = ls at hl ⊢
  have hl : lv_has ls 3 [(0, .ref ha), (1, .int (nI b)), (2, .int (nI k))] := hl
  refine lv_aload_n hx hb d_PW_isStageWhole_0 rfl (lv_at hl 0 rfl) ?_
  refine lv_iload_n hx hb d_PW_isStageWhole_1 rfl (lv_at hl 1 rfl) ?_
  refine lv_iconst (v := (nI 1)) hx hb d_PW_isStageWhole_2 (by decide) ?_
  refine lv_iadd hx hb d_PW_isStageWhole_3 ?_
  refine tp (nI_add _ _) ?_
  refine lv_iload_n hx hb d_PW_isStageWhole_4 rfl (lv_at hl 2 rfl) ?_
  refine lv_iadd hx hb d_PW_isStageWhole_5 ?_
  refine tp (y := (nI (b + (1 + k)))) (by rw [nI_add, Nat.add_assoc]) ?_
  refine ar_ld (k := b + (1 + k)) hx hb hK hP 0 0 rfl rfl (by omega) (by first | decide | omega) d_PW_isStageWhole_6 ?_
  refine lv_aload_n hx hb d_PW_isStageWhole_7 rfl (lv_at hl 0 rfl) ?_
  refine lv_iload_n hx hb d_PW_isStageWhole_8 rfl (lv_at hl 1 rfl) ?_
  refine lv_bipush (v := (nI 14)) hx hb d_PW_isStageWhole_9 (by decide) ?_
  refine lv_iadd hx hb d_PW_isStageWhole_11 ?_
  refine tp (nI_add _ _) ?_
  refine lv_iload_n hx hb d_PW_isStageWhole_12 rfl (lv_at hl 2 rfl) ?_
  refine lv_iadd hx hb d_PW_isStageWhole_13 ?_
  refine tp (y := (nI (b + (14 + k)))) (by rw [nI_add, Nat.add_assoc]) ?_
  refine ar_ld (k := b + (14 + k)) hx hb hK hP 0 0 rfl rfl (by omega) (by first | decide | omega) d_PW_isStageWhole_14 ?_
  refine lv_iload_n hx hb d_PW_isStageWhole_15 rfl (lv_at hl 2 rfl) ?_
  refine pr_call (va_runS (As := [.int (f (b + (14 + k))), .int (nI k)]) (rest := [.int (f (b + (1 + k)))]) ⟨hx, hb, hml, hown, hts⟩ (c_PW_digest l dC dI cI (a := f (b + (14 + k))) (b := (nI k)) ) ⟨callB_of 2 hts (gd kw_96) rfl rfl rfl (hts _ kw_38) (hts _ kw_94) (by decide +kernel) ⟨Nat.le_of_ble_eq_true rfl, Nat.le_of_ble_eq_true rfl⟩, (hts _ kw_95)⟩ ⟨fun a U g mk q => by obtain ⟨q0, qP, qK⟩ := q; exact ⟨q0, qP, qK.call⟩, fun U hU hW => ⟨rfl, by rw [hU]; exact hP.sub [] rfl, hKN.warm hW⟩⟩ rfl rfl hl.1 rfl (lv_room (Nat.le_of_ble_eq_true rfl)) d_PW_isStageWhole_16 ⟨Nat.zero_le _, Nat.zero_le _⟩) ?_
  refine lv_icmp_ne (tgt := 26) hx hb d_PW_isStageWhole_19 (by decide) (fun h_1 => ?_) (fun h_1 => ?_)
  · refine lv_iconst (v := (nI 0)) hx hb d_PW_isStageWhole_26 (by decide) ?_
    exact W.zret (v := (bI false)) hx hb hr (bI_narrow _) (fun t ht hW => ⟨_, rfl, (by simp [stOk, h_1]), ht⟩) (fun q h => by cases h) d_PW_isStageWhole_27
  · refine lv_iconst (v := (nI 1)) hx hb d_PW_isStageWhole_22 (by decide) ?_
    refine lv_goto (tgt := 27) hx hb d_PW_isStageWhole_23 (by decide) ?_
    exact W.zret (v := (bI true)) hx hb hr (bI_narrow _) (fun t ht hW => ⟨_, rfl, (by simp [stOk, h_1]), ht⟩) (fun q h => by cases h) d_PW_isStageWhole_27
set_option maxHeartbeats 4000000 in
set_option maxRecDepth 100000 in
theorem c_PW_whatIsWrong (l : Launch) (dC : Nat → ClassId) (dI : Nat → Nat → Nat) (cI : ClassId) (ha : Nat) (b : Nat) (rt : Int32) (N : Nat) (f : Nat → Int32) (hN : N < 2 ^ 31) (hbN : b + 17 ≤ N) : Met l y_PW_whatIsWrong w_PW_whatIsWrong ({ frames := 4, cells := 0, slots := 0, locals := 95 }) (va_Pc [.ref ha, .int (nI b), .int rt] (fun U => va_P (dC, dI) classes [(ha, .inl (cI, N, .inl f))] U.heap ∧ KN dC dI cI U)) (qr (wrong (fun i => f (b + i)) rt)) 0 0 (fun _ => False) := by
  refine Met.ofW (cc := b_PW_whatIsWrong) (maxL := 4) (ret := (some .int)) (by decide) rfl ?_
  intro p e s m args below meth c s₁ B hml hv
  obtain ⟨rfl, hP, hKN⟩ := hv
  have hK := hKN.1
  have hx := B.exec
  have hb := B.bytes
  have hr := B.returns
  have hts := fun (w : Cond) (h : w ∈ gt) => atoms_spec (ws := w_PW_whatIsWrong) B.pre w (List.mem_cons_of_mem _ h)
  have hown : s.vm.findClass R_PW = some m.cls := findClass_of_methodNamed B.named
  have hlocks := B.notSynchronized
  have hl := lv_entry ([.ref ha, .int (nI b), .int rt]) (n := 4) (Nat.le_of_ble_eq_true rfl)
  rw [lg_entry_eq]
  generalize (lg_sl ([.ref ha, .int (nI b), .int rt]) ++ List.replicate (4 - (lg_sl ([.ref ha, .int (nI b), .int rt])).length) Slot.unset).toArray = ls at hl ⊢
  have hl : lv_has ls 4 [(0, .ref ha), (1, .int (nI b)), (2, .int rt)] := hl
  refine lv_aload_n hx hb d_PW_whatIsWrong_0 rfl (lv_at hl 0 rfl) ?_
  refine lv_iload_n hx hb d_PW_whatIsWrong_1 rfl (lv_at hl 1 rfl) ?_
  refine ar_ld (k := b) hx hb hK hP 0 0 rfl rfl (by omega) (by first | decide | omega) d_PW_whatIsWrong_2 ?_
  refine pr_call (va_runS (As := [.int (f b)]) (rest := []) ⟨hx, hb, hml, hown, hts⟩ (c_PW_isVersion l dC dI cI (v := f b) ) ⟨callB_of 1 hts (gd kw_184) rfl rfl rfl (hts _ kw_38) (hts _ kw_215) (by decide +kernel) ⟨Nat.le_of_ble_eq_true rfl, Nat.le_of_ble_eq_true rfl⟩, (hts _ kw_183)⟩ ⟨fun a U g mk q => by obtain ⟨q0, qP, qK⟩ := q; exact ⟨q0, qP, qK.call⟩, fun U hU hW => ⟨rfl, by rw [hU]; exact hP.sub [] rfl, hKN.warm hW⟩⟩ rfl rfl hl.1 rfl (lv_room (Nat.le_of_ble_eq_true rfl)) d_PW_whatIsWrong_3 ⟨Nat.zero_le _, Nat.zero_le _⟩) ?_
  refine bz_ne (tgt := 11) hx hb d_PW_whatIsWrong_6 (by decide) (fun h_1 => ?_) (fun h_1 => ?_)
  · refine lv_aload_n hx hb d_PW_whatIsWrong_11 rfl (lv_at hl 0 rfl) ?_
    refine lv_iload_n hx hb d_PW_whatIsWrong_12 rfl (lv_at hl 1 rfl) ?_
    refine lv_iload_n hx hb d_PW_whatIsWrong_13 rfl (lv_at hl 2 rfl) ?_
    refine pr_call (va_runS (As := [.ref ha, .int (nI b), .int rt]) (rest := []) ⟨hx, hb, hml, hown, hts⟩ (c_Sg_isSigned l dC dI cI (ha := ha) (b := b) (rt := rt) (N := N) (f := f) (hN := (by omega)) (hbN := (by omega))) ⟨callB_of 3 hts (gd kw_218) rfl rfl rfl (hts _ kw_37) (hts _ kw_216) (by decide +kernel) ⟨Nat.le_of_ble_eq_true rfl, Nat.le_of_ble_eq_true rfl⟩, (hts _ kw_217)⟩ ⟨fun a U g mk q => by obtain ⟨q0, qP, qK⟩ := q; exact ⟨q0, qP, qK.call⟩, fun U hU hW => ⟨rfl, by rw [hU]; exact hP.sub [0] rfl, hKN.warm hW⟩⟩ rfl rfl hl.1 rfl (lv_room (Nat.le_of_ble_eq_true rfl)) d_PW_whatIsWrong_14 ⟨Nat.zero_le _, Nat.zero_le _⟩) ?_
    refine bz_ne (tgt := 22) hx hb d_PW_whatIsWrong_17 (by decide) (fun h_2 => ?_) (fun h_2 => ?_)
    · refine lv_iconst (v := (nI 0)) hx hb d_PW_whatIsWrong_22 (by decide) ?_
      refine lv_istore_n (lv' := [(3, .int (nI 0)), (0, .ref ha), (1, .int (nI b)), (2, .int rt)]) hx hb d_PW_whatIsWrong_23 rfl hl (by decide) rfl (fun ls hl => ?_)
      refine lv_iload_n hx hb d_PW_whatIsWrong_24 rfl (lv_at hl 0 rfl) ?_
      refine lv_iconst (v := (nI 3)) hx hb d_PW_whatIsWrong_25 (by decide) ?_
      refine nb_ge (tgt := 48) hx hb d_PW_whatIsWrong_26 (by decide) (by decide) (by decide) (fun h_3 => ?_) (fun h_3 => ?_)
      · exact absurd h_3 (by decide)
      · refine lv_aload_n hx hb d_PW_whatIsWrong_29 rfl (lv_at hl 1 rfl) ?_
        refine lv_iload_n hx hb d_PW_whatIsWrong_30 rfl (lv_at hl 2 rfl) ?_
        refine lv_iload_n hx hb d_PW_whatIsWrong_31 rfl (lv_at hl 0 rfl) ?_
        refine pr_call (va_runS (As := [.ref ha, .int (nI b), .int (nI 0)]) (rest := []) ⟨hx, hb, hml, hown, hts⟩ (c_PW_isStageWhole l dC dI cI (ha := ha) (b := b) (k := 0) (N := N) (f := f) (hN := (by omega)) (hbN := (by omega)) (hk := (by omega))) ⟨callB_of 3 hts (gd kw_231) rfl rfl rfl (hts _ kw_38) (hts _ kw_229) (by decide +kernel) ⟨Nat.le_of_ble_eq_true rfl, Nat.le_of_ble_eq_true rfl⟩, (hts _ kw_230)⟩ ⟨fun a U g mk q => by obtain ⟨q0, qP, qK⟩ := q; exact ⟨q0, qP, qK.call⟩, fun U hU hW => ⟨rfl, by rw [hU]; exact hP.sub [0] rfl, hKN.warm hW⟩⟩ rfl rfl hl.1 rfl (lv_room (Nat.le_of_ble_eq_true rfl)) d_PW_whatIsWrong_32 ⟨Nat.zero_le _, Nat.zero_le _⟩) ?_
        refine bz_ne (tgt := 42) hx hb d_PW_whatIsWrong_35 (by decide) (fun h_4 => ?_) (fun h_4 => ?_)
        · refine lv_iinc (k := 0) (v := (nI 1)) (lv' := [(3, .int (nI 1)), (0, .ref ha), (1, .int (nI b)), (2, .int rt)]) hx hb d_PW_whatIsWrong_42 hl rfl (by decide) (by decide) rfl (fun ls hl => ?_)
          refine lv_goto (tgt := 24) hx hb d_PW_whatIsWrong_45 (by decide) ?_
          refine lv_iload_n hx hb d_PW_whatIsWrong_24 rfl (lv_at hl 0 rfl) ?_
          refine lv_iconst (v := (nI 3)) hx hb d_PW_whatIsWrong_25 (by decide) ?_
          refine nb_ge (tgt := 48) hx hb d_PW_whatIsWrong_26 (by decide) (by decide) (by decide) (fun h_5 => ?_) (fun h_5 => ?_)
          · exact absurd h_5 (by decide)
          · refine lv_aload_n hx hb d_PW_whatIsWrong_29 rfl (lv_at hl 1 rfl) ?_
            refine lv_iload_n hx hb d_PW_whatIsWrong_30 rfl (lv_at hl 2 rfl) ?_
            refine lv_iload_n hx hb d_PW_whatIsWrong_31 rfl (lv_at hl 0 rfl) ?_
            refine pr_call (va_runS (As := [.ref ha, .int (nI b), .int (nI 1)]) (rest := []) ⟨hx, hb, hml, hown, hts⟩ (c_PW_isStageWhole l dC dI cI (ha := ha) (b := b) (k := 1) (N := N) (f := f) (hN := (by omega)) (hbN := (by omega)) (hk := (by omega))) ⟨callB_of 3 hts (gd kw_231) rfl rfl rfl (hts _ kw_38) (hts _ kw_229) (by decide +kernel) ⟨Nat.le_of_ble_eq_true rfl, Nat.le_of_ble_eq_true rfl⟩, (hts _ kw_230)⟩ ⟨fun a U g mk q => by obtain ⟨q0, qP, qK⟩ := q; exact ⟨q0, qP, qK.call⟩, fun U hU hW => ⟨rfl, by rw [hU]; exact hP.sub [0] rfl, hKN.warm hW⟩⟩ rfl rfl hl.1 rfl (lv_room (Nat.le_of_ble_eq_true rfl)) d_PW_whatIsWrong_32 ⟨Nat.zero_le _, Nat.zero_le _⟩) ?_
            refine bz_ne (tgt := 42) hx hb d_PW_whatIsWrong_35 (by decide) (fun h_6 => ?_) (fun h_6 => ?_)
            · refine lv_iinc (k := 0) (v := (nI 2)) (lv' := [(3, .int (nI 2)), (0, .ref ha), (1, .int (nI b)), (2, .int rt)]) hx hb d_PW_whatIsWrong_42 hl rfl (by decide) (by decide) rfl (fun ls hl => ?_)
              refine lv_goto (tgt := 24) hx hb d_PW_whatIsWrong_45 (by decide) ?_
              refine lv_iload_n hx hb d_PW_whatIsWrong_24 rfl (lv_at hl 0 rfl) ?_
              refine lv_iconst (v := (nI 3)) hx hb d_PW_whatIsWrong_25 (by decide) ?_
              refine nb_ge (tgt := 48) hx hb d_PW_whatIsWrong_26 (by decide) (by decide) (by decide) (fun h_7 => ?_) (fun h_7 => ?_)
              · exact absurd h_7 (by decide)
              · refine lv_aload_n hx hb d_PW_whatIsWrong_29 rfl (lv_at hl 1 rfl) ?_
                refine lv_iload_n hx hb d_PW_whatIsWrong_30 rfl (lv_at hl 2 rfl) ?_
                refine lv_iload_n hx hb d_PW_whatIsWrong_31 rfl (lv_at hl 0 rfl) ?_
                refine pr_call (va_runS (As := [.ref ha, .int (nI b), .int (nI 2)]) (rest := []) ⟨hx, hb, hml, hown, hts⟩ (c_PW_isStageWhole l dC dI cI (ha := ha) (b := b) (k := 2) (N := N) (f := f) (hN := (by omega)) (hbN := (by omega)) (hk := (by omega))) ⟨callB_of 3 hts (gd kw_231) rfl rfl rfl (hts _ kw_38) (hts _ kw_229) (by decide +kernel) ⟨Nat.le_of_ble_eq_true rfl, Nat.le_of_ble_eq_true rfl⟩, (hts _ kw_230)⟩ ⟨fun a U g mk q => by obtain ⟨q0, qP, qK⟩ := q; exact ⟨q0, qP, qK.call⟩, fun U hU hW => ⟨rfl, by rw [hU]; exact hP.sub [0] rfl, hKN.warm hW⟩⟩ rfl rfl hl.1 rfl (lv_room (Nat.le_of_ble_eq_true rfl)) d_PW_whatIsWrong_32 ⟨Nat.zero_le _, Nat.zero_le _⟩) ?_
                refine bz_ne (tgt := 42) hx hb d_PW_whatIsWrong_35 (by decide) (fun h_8 => ?_) (fun h_8 => ?_)
                · refine lv_iinc (k := 0) (v := (nI 3)) (lv' := [(3, .int (nI 3)), (0, .ref ha), (1, .int (nI b)), (2, .int rt)]) hx hb d_PW_whatIsWrong_42 hl rfl (by decide) (by decide) rfl (fun ls hl => ?_)
                  refine lv_goto (tgt := 24) hx hb d_PW_whatIsWrong_45 (by decide) ?_
                  refine lv_iload_n hx hb d_PW_whatIsWrong_24 rfl (lv_at hl 0 rfl) ?_
                  refine lv_iconst (v := (nI 3)) hx hb d_PW_whatIsWrong_25 (by decide) ?_
                  refine nb_ge (tgt := 48) hx hb d_PW_whatIsWrong_26 (by decide) (by decide) (by decide) (fun h_9 => ?_) (fun h_9 => ?_)
                  · refine lv_iconst (v := (nI 0)) hx hb d_PW_whatIsWrong_48 (by decide) ?_
                    exact W.iret (v := (nI 0)) hx hb hr (fun t ht hW => ⟨_, rfl, (by simp [wrong, h_1, h_2, h_4, h_6, h_8]), ht⟩) (fun q h => by cases h) d_PW_whatIsWrong_49
                  · exact absurd h_9 (by decide)
                · refine lv_iconst (v := (nI 3)) hx hb d_PW_whatIsWrong_38 (by decide) ?_
                  refine lv_iload_n hx hb d_PW_whatIsWrong_39 rfl (lv_at hl 0 rfl) ?_
                  refine lv_iadd hx hb d_PW_whatIsWrong_40 ?_
                  refine tp (y := (nI 5)) (by decide) ?_
                  exact W.iret (v := (nI 5)) hx hb hr (fun t ht hW => ⟨_, rfl, (by simp [wrong, h_1, h_2, h_4, h_6, h_8]), ht⟩) (fun q h => by cases h) d_PW_whatIsWrong_41
            · refine lv_iconst (v := (nI 3)) hx hb d_PW_whatIsWrong_38 (by decide) ?_
              refine lv_iload_n hx hb d_PW_whatIsWrong_39 rfl (lv_at hl 0 rfl) ?_
              refine lv_iadd hx hb d_PW_whatIsWrong_40 ?_
              refine tp (y := (nI 4)) (by decide) ?_
              exact W.iret (v := (nI 4)) hx hb hr (fun t ht hW => ⟨_, rfl, (by simp [wrong, h_1, h_2, h_4, h_6]), ht⟩) (fun q h => by cases h) d_PW_whatIsWrong_41
        · refine lv_iconst (v := (nI 3)) hx hb d_PW_whatIsWrong_38 (by decide) ?_
          refine lv_iload_n hx hb d_PW_whatIsWrong_39 rfl (lv_at hl 0 rfl) ?_
          refine lv_iadd hx hb d_PW_whatIsWrong_40 ?_
          refine tp (y := (nI 3)) (by decide) ?_
          exact W.iret (v := (nI 3)) hx hb hr (fun t ht hW => ⟨_, rfl, (by simp [wrong, h_1, h_2, h_4]), ht⟩) (fun q h => by cases h) d_PW_whatIsWrong_41
    · refine lv_iconst (v := (nI 2)) hx hb d_PW_whatIsWrong_20 (by decide) ?_
      exact W.iret (v := (nI 2)) hx hb hr (fun t ht hW => ⟨_, rfl, (by simp [wrong, h_1, h_2]), ht⟩) (fun q h => by cases h) d_PW_whatIsWrong_21
  · refine lv_iconst (v := (nI 1)) hx hb d_PW_whatIsWrong_9 (by decide) ?_
    exact W.iret (v := (nI 1)) hx hb hr (fun t ht hW => ⟨_, rfl, (by simp [wrong, h_1]), ht⟩) (fun q h => by cases h) d_PW_whatIsWrong_10
set_option maxHeartbeats 4000000 in
set_option maxRecDepth 100000 in
theorem c_PW_putStage (l : Launch) (dC : Nat → ClassId) (dI : Nat → Nat → Nat) (cI : ClassId) (ha : Nat) (b : Nat) (k : Nat) (im : Int32) (N : Nat) (f : Nat → Int32) (hN : N < 2 ^ 31) (hbN : b + 17 ≤ N) (hk : k < 3) (sz : Nat) : Met l y_PW_putStage w_PW_putStage ({ frames := 2, cells := 0, slots := 0, locals := 43 }) (va_Pc [.ref ha, .int (nI b), .int (nI k), .int im] (fun U => U.heap.size = sz ∧ va_P (dC, dI) classes [(ha, .inl (cI, N, .inl f))] U.heap ∧ KN dC dI cI U ∧ va_D (fun _ => True) [(ha, .inl (cI, N, .inl f))])) (va_Qv (fun u : (Nat → Int32) => stg f b k im = u) (fun (u : (Nat → Int32)) t => va_P (dC, dI) classes [(ha, .inl (cI, N, .inl u))] t.heap ∧ va_D (va_A [(ha, .inl (cI, N, .inl f))] sz) [(ha, .inl (cI, N, .inl u))]) (va_A [(ha, .inl (cI, N, .inl f))] sz)) 0 0 (va_A [(ha, .inl (cI, N, .inl f))] sz) := by
  refine Met.ofW (cc := b_PW_putStage) (maxL := 4) (ret := none) (by decide) rfl ?_
  intro p e s m args below meth c s₁ B hml hv
  obtain ⟨rfl, hsz, hP, hKN, hD0⟩ := hv
  have hK := hKN.1
  have hx := B.exec
  have hb := B.bytes
  have hr := B.returns
  have hts := fun (w : Cond) (h : w ∈ gt) => atoms_spec (ws := w_PW_putStage) B.pre w (List.mem_cons_of_mem _ h)
  have hown : s.vm.findClass R_PW = some m.cls := findClass_of_methodNamed B.named
  have hlocks := B.notSynchronized
  subst hsz
  have hD := hD0.self (sz := s.heap.size)
  generalize hAe : va_A [(ha, .inl (cI, N, .inl f))] s.heap.size = A at hD ⊢
  have hA : ∀ q : Nat, s.heap.size ≤ q → A q := fun q h => by rw [← hAe]; exact Or.inr h
  have hS : va_S A s.heap s.heap [] := va_S.rf
  have hP : va_P (dC, dI) classes [(ha, .inl (cI, N, .inl f))] s.heap := hP
  clear hAe hD0
  have hl := lv_entry ([.ref ha, .int (nI b), .int (nI k), .int im]) (n := 4) (Nat.le_of_ble_eq_true rfl)
  rw [lg_entry_eq]
  generalize (lg_sl ([.ref ha, .int (nI b), .int (nI k), .int im]) ++ List.replicate (4 - (lg_sl ([.ref ha, .int (nI b), .int (nI k), .int im])).length) Slot.unset).toArray = ls at hl ⊢
  have hl : lv_has ls 4 [(0, .ref ha), (1, .int (nI b)), (2, .int (nI k)), (3, .int im)] := hl
  refine lv_aload_n hx hb d_PW_putStage_0 rfl (lv_at hl 0 rfl) ?_
  refine lv_iload_n hx hb d_PW_putStage_1 rfl (lv_at hl 1 rfl) ?_
  refine lv_iconst (v := (nI 1)) hx hb d_PW_putStage_2 (by decide) ?_
  refine lv_iadd hx hb d_PW_putStage_3 ?_
  refine tp (nI_add _ _) ?_
  refine lv_iload_n hx hb d_PW_putStage_4 rfl (lv_at hl 2 rfl) ?_
  refine lv_iadd hx hb d_PW_putStage_5 ?_
  refine tp (y := (nI (b + (1 + k)))) (by rw [nI_add, Nat.add_assoc]) ?_
  refine lv_iload_n hx hb d_PW_putStage_6 rfl (lv_at hl 3 rfl) ?_
  refine lv_iload_n hx hb d_PW_putStage_7 rfl (lv_at hl 2 rfl) ?_
  refine pr_call (va_runS (As := [.int im, .int (nI k)]) (rest := [.int (nI (b + (1 + k))), .ref ha]) ⟨hx, hb, hml, hown, hts⟩ (c_PW_digest l dC dI cI (a := im) (b := (nI k)) ) ⟨callB_of 2 hts (gd kw_96) rfl rfl rfl (hts _ kw_38) (hts _ kw_94) (by decide +kernel) ⟨Nat.le_of_ble_eq_true rfl, Nat.le_of_ble_eq_true rfl⟩, (hts _ kw_95)⟩ ⟨fun a U g mk q => by obtain ⟨q0, qP, qK⟩ := q; exact ⟨q0, qP, qK.call⟩, fun U hU hW => ⟨rfl, by rw [hU]; exact hP.sub [] rfl, hKN.warm hW⟩⟩ rfl rfl hl.1 rfl (lv_room (Nat.le_of_ble_eq_true rfl)) d_PW_putStage_8 ⟨Nat.zero_le _, Nat.zero_le _⟩) ?_
  refine ar_st (k := b + (1 + k)) hx hb hK hP hD hS 0 0 rfl rfl (by omega) (by first | decide | omega) d_PW_putStage_11 (fun H locs hP hD hS => ?_)
  have hP : va_P (dC, dI) classes [(ha, .inl (cI, N, .inl (upd f (b + (1 + k)) (hh im (nI k)))))] H := hP
  have hD : va_D A [(ha, .inl (cI, N, .inl (upd f (b + (1 + k)) (hh im (nI k)))))] := hD
  refine lv_aload_n hx hb d_PW_putStage_12 rfl (lv_at hl 0 rfl) ?_
  refine lv_iload_n hx hb d_PW_putStage_13 rfl (lv_at hl 1 rfl) ?_
  refine lv_bipush (v := (nI 14)) hx hb d_PW_putStage_14 (by decide) ?_
  refine lv_iadd hx hb d_PW_putStage_16 ?_
  refine tp (nI_add _ _) ?_
  refine lv_iload_n hx hb d_PW_putStage_17 rfl (lv_at hl 2 rfl) ?_
  refine lv_iadd hx hb d_PW_putStage_18 ?_
  refine tp (y := (nI (b + (14 + k)))) (by rw [nI_add, Nat.add_assoc]) ?_
  refine lv_iload_n hx hb d_PW_putStage_19 rfl (lv_at hl 3 rfl) ?_
  refine ar_st (k := b + (14 + k)) hx hb hK hP hD hS 0 0 rfl rfl (by omega) (by first | decide | omega) d_PW_putStage_20 (fun H locs hP hD hS => ?_)
  have hP : va_P (dC, dI) classes [(ha, .inl (cI, N, .inl (upd (upd f (b + (1 + k)) (hh im (nI k))) (b + (14 + k)) im)))] H := hP
  have hD : va_D A [(ha, .inl (cI, N, .inl (upd (upd f (b + (1 + k)) (hh im (nI k))) (b + (14 + k)) im)))] := hD
  exact W.vret hx hb hr (fun t ht hW => ⟨⟨(upd (upd f (b + (1 + k)) (hh im (nI k))) (b + (14 + k)) im), rfl, (by first | rfl | (simp only []; done) | (simp only []; rfl) | (simp []; done)), by rw [ht]; exact hP, hD⟩, hS.F ht⟩) hS.2.2 d_PW_putStage_21
set_option maxHeartbeats 4000000 in
set_option maxRecDepth 100000 in
theorem c_Mk_root (l : Launch) (dC : Nat → ClassId) (dI : Nat → Nat → Nat) (cI : ClassId) (hm : Nat) (sc : Int32) (hn : Nat) (nk : Nat) (nd : Nat → Int32)  : Met l y_Mk_root w_Mk_root ({ frames := 0, cells := 0, slots := 0, locals := 0 }) (va_Pc [.ref hm] (fun U => va_P (dC, dI) classes [(hm, .inr (1, [.int sc, .ref hn, .int (nI nk)])), (hn, .inl (cI, 16, .inl nd))] U.heap ∧ KN dC dI cI U)) (qr (nd 1)) 0 0 (fun _ => False) := by
  refine Met.ofW (cc := b_Mk_root) (maxL := 1) (ret := (some .int)) (by decide) rfl ?_
  intro p e s m args below meth c s₁ B hml hv
  obtain ⟨rfl, hP, hKN⟩ := hv
  have hK := hKN.1
  have hx := B.exec
  have hb := B.bytes
  have hr := B.returns
  have hts := fun (w : Cond) (h : w ∈ gt) => atoms_spec (ws := w_Mk_root) B.pre w (List.mem_cons_of_mem _ h)
  have hown : s.vm.findClass R_Mk = some m.cls := findClass_of_methodNamed B.named
  have hlocks := B.notSynchronized
  have hl := lv_entry ([.ref hm]) (n := 1) (Nat.le_of_ble_eq_true rfl)
  rw [lg_entry_eq]
  generalize (lg_sl ([.ref hm]) ++ List.replicate (1 - (lg_sl ([.ref hm])).length) Slot.unset).toArray = ls at hl ⊢
  have hl : lv_has ls 1 [(0, .ref hm)] := hl
  refine lv_aload_n hx hb d_Mk_root_0 rfl (lv_at hl 0 rfl) ?_
  refine va_get (D := (dC, dI)) (ci := 1) (v := .ref hn) (C := R_Mk) (T := F_Mk) (N := 3) hx hb hts in_Mk hown hK hP 0 rfl rfl 1 (by decide) (hts _ kw_77) (fun _ h9 => h9) rfl d_Mk_root_1 ?_
  refine lv_iconst (v := (nI 1)) hx hb d_Mk_root_4 (by decide) ?_
  refine ar_ld (k := 1) hx hb hK hP 1 0 rfl rfl (by omega) (by first | decide | omega) d_Mk_root_5 ?_
  exact W.iret (v := (nd 1)) hx hb hr (fun t ht hW => ⟨_, rfl, (by first | rfl | (simp only []; done) | (simp only []; rfl) | (simp []; done)), ht⟩) (fun q h => by cases h) d_Mk_root_6
set_option maxHeartbeats 4000000 in
set_option maxRecDepth 100000 in
theorem c_Mk_hasKeyLeft (l : Launch) (dC : Nat → ClassId) (dI : Nat → Nat → Nat) (cI : ClassId) (hm : Nat) (sc : Int32) (hn : Nat) (nk : Nat) (hnk : nk ≤ 8) : Met l y_Mk_hasKeyLeft w_Mk_hasKeyLeft ({ frames := 0, cells := 0, slots := 0, locals := 0 }) (va_Pc [.ref hm] (fun U => va_P (dC, dI) classes [(hm, .inr (1, [.int sc, .ref hn, .int (nI nk)]))] U.heap ∧ KN dC dI cI U)) (qr (bI (!decide (8 ≤ nk)))) 0 0 (fun _ => False) := by
  refine Met.ofW (cc := b_Mk_hasKeyLeft) (maxL := 1) (ret := (some .boolean)) (by decide) rfl ?_
  intro p e s m args below meth c s₁ B hml hv
  obtain ⟨rfl, hP, hKN⟩ := hv
  have hK := hKN.1
  have hx := B.exec
  have hb := B.bytes
  have hr := B.returns
  have hts := fun (w : Cond) (h : w ∈ gt) => atoms_spec (ws := w_Mk_hasKeyLeft) B.pre w (List.mem_cons_of_mem _ h)
  have hown : s.vm.findClass R_Mk = some m.cls := findClass_of_methodNamed B.named
  have hlocks := B.notSynchronized
  have hl := lv_entry ([.ref hm]) (n := 1) (Nat.le_of_ble_eq_true rfl)
  rw [lg_entry_eq]
  generalize (lg_sl ([.ref hm]) ++ List.replicate (1 - (lg_sl ([.ref hm])).length) Slot.unset).toArray = ls at hl ⊢
  have hl : lv_has ls 1 [(0, .ref hm)] := hl
  refine lv_aload_n hx hb d_Mk_hasKeyLeft_0 rfl (lv_at hl 0 rfl) ?_
  refine va_get (D := (dC, dI)) (ci := 1) (v := .int (nI nk)) (C := R_Mk) (T := F_Mk) (N := 3) hx hb hts in_Mk hown hK hP 0 rfl rfl 2 (by decide) (hts _ kw_78) (fun _ h9 => h9) rfl d_Mk_hasKeyLeft_1 ?_
  refine lv_bipush (v := (nI 8)) hx hb d_Mk_hasKeyLeft_4 (by decide) ?_
  refine nb_ge (tgt := 13) hx hb d_Mk_hasKeyLeft_6 (by decide) (by first | omega | exact Nat.lt_of_lt_of_le (stt_lt _ _) (by decide)) (by first | omega | exact Nat.lt_of_lt_of_le (stt_lt _ _) (by decide)) (fun h_1 => ?_) (fun h_1 => ?_)
  · refine lv_iconst (v := (nI 0)) hx hb d_Mk_hasKeyLeft_13 (by decide) ?_
    exact W.zret (v := (bI false)) hx hb hr (bI_narrow _) (fun t ht hW => ⟨_, rfl, (by simp [h_1]), ht⟩) (fun q h => by cases h) d_Mk_hasKeyLeft_14
  · refine lv_iconst (v := (nI 1)) hx hb d_Mk_hasKeyLeft_9 (by decide) ?_
    refine lv_goto (tgt := 14) hx hb d_Mk_hasKeyLeft_10 (by decide) ?_
    exact W.zret (v := (bI true)) hx hb hr (bI_narrow _) (fun t ht hW => ⟨_, rfl, (by simp [h_1]), ht⟩) (fun q h => by cases h) d_Mk_hasKeyLeft_14
set_option maxHeartbeats 4000000 in
set_option maxRecDepth 100000 in
theorem c_Mk_leaf (l : Launch) (dC : Nat → ClassId) (dI : Nat → Nat → Nat) (cI : ClassId) (sc : Int32) (q : Nat)  : Met l y_Mk_leaf w_Mk_leaf ({ frames := 2, cells := 0, slots := 0, locals := 47 }) (va_Pc [.int sc, .int (nI q)] (fun U => va_P (dC, dI) classes [] U.heap ∧ KN dC dI cI U)) (qr (mkLeaf sc q)) 0 0 (fun _ => False) := by
  refine Met.ofW (cc := b_Mk_leaf) (maxL := 4) (ret := (some .int)) (by decide) rfl ?_
  intro p e s m args below meth c s₁ B hml hv
  obtain ⟨rfl, hP, hKN⟩ := hv
  have hK := hKN.1
  have hx := B.exec
  have hb := B.bytes
  have hr := B.returns
  have hts := fun (w : Cond) (h : w ∈ gt) => atoms_spec (ws := w_Mk_leaf) B.pre w (List.mem_cons_of_mem _ h)
  have hown : s.vm.findClass R_Mk = some m.cls := findClass_of_methodNamed B.named
  have hlocks := B.notSynchronized
  have hl := lv_entry ([.int sc, .int (nI q)]) (n := 4) (Nat.le_of_ble_eq_true rfl)
  rw [lg_entry_eq]
  generalize (lg_sl ([.int sc, .int (nI q)]) ++ List.replicate (4 - (lg_sl ([.int sc, .int (nI q)])).length) Slot.unset).toArray = ls at hl ⊢
  have hl : lv_has ls 4 [(0, .int sc), (1, .int (nI q))] := hl
  refine lv_iload_n hx hb d_Mk_leaf_0 rfl (lv_at hl 1 rfl) ?_
  refine lv_istore_n (lv' := [(2, .int (nI q)), (0, .int sc), (1, .int (nI q))]) hx hb d_Mk_leaf_1 rfl hl (by decide) rfl (fun ls hl => ?_)
  refine lv_iconst (v := (nI 0)) hx hb d_Mk_leaf_2 (by decide) ?_
  refine lv_istore_n (lv' := [(3, .int (nI 0)), (2, .int (nI q)), (0, .int sc), (1, .int (nI q))]) hx hb d_Mk_leaf_3 rfl hl (by decide) rfl (fun ls hl => ?_)
  refine lv_iload_n hx hb d_Mk_leaf_4 rfl (lv_at hl 0 rfl) ?_
  refine lv_bipush (v := (nI 6)) hx hb d_Mk_leaf_5 (by decide) ?_
  refine nb_ge (tgt := 34) hx hb d_Mk_leaf_7 (by decide) (by decide) (by decide) (fun h_1 => ?_) (fun h_1 => ?_)
  · exact absurd h_1 (by decide)
  · refine lv_iload_n hx hb d_Mk_leaf_10 rfl (lv_at hl 1 rfl) ?_
    refine lv_iload_n hx hb d_Mk_leaf_11 rfl (lv_at hl 2 rfl) ?_
    refine lv_iload_n hx hb d_Mk_leaf_12 rfl (lv_at hl 3 rfl) ?_
    refine lv_iload_n hx hb d_Mk_leaf_13 rfl (lv_at hl 0 rfl) ?_
    refine pr_call (va_runS (As := [.int sc, .int (nI q), .int (nI 0)]) (rest := [.int (nI q)]) ⟨hx, hb, hml, hown, hts⟩ (c_Mk_chainStart l dC dI cI (sc := sc) (q := q) (ch := 0) ) ⟨callB_of 3 hts (gd kw_63) rfl rfl rfl (hts _ kw_36) (hts _ kw_61) (by decide +kernel) ⟨Nat.le_of_ble_eq_true rfl, Nat.le_of_ble_eq_true rfl⟩, (hts _ kw_62)⟩ ⟨fun a U g mk q => by obtain ⟨q0, qP, qK⟩ := q; exact ⟨q0, qP, qK.call⟩, fun U hU hW => ⟨rfl, by rw [hU]; exact hP.sub [] rfl, hKN.warm hW⟩⟩ rfl rfl hl.1 rfl (lv_room (Nat.le_of_ble_eq_true rfl)) d_Mk_leaf_14 ⟨Nat.zero_le _, Nat.zero_le _⟩) ?_
    refine lv_iload_n hx hb d_Mk_leaf_17 rfl (lv_at hl 0 rfl) ?_
    refine lv_iconst (v := (nI 0)) hx hb d_Mk_leaf_18 (by decide) ?_
    refine lv_bipush (v := (nI 15)) hx hb d_Mk_leaf_19 (by decide) ?_
    refine pr_call (va_runS (As := [.int (cs sc q 0), .int (nI 0), .int (nI 0), .int (nI 15)]) (rest := [.int (nI q)]) ⟨hx, hb, hml, hown, hts⟩ (c_Sg_walk l dC dI cI (x := cs sc q 0) (ch := 0) (fr := 0) (to := 15) (hfr := (by first | omega | exact dgt_le _ _)) (hto := (by first | omega | exact dgt_le _ _))) ⟨callB_of 4 hts (gd kw_71) rfl rfl rfl (hts _ kw_37) (hts _ kw_69) (by decide +kernel) ⟨Nat.le_of_ble_eq_true rfl, Nat.le_of_ble_eq_true rfl⟩, (hts _ kw_70)⟩ ⟨fun a U g mk q => by obtain ⟨q0, qP, qK⟩ := q; exact ⟨q0, qP, qK.call⟩, fun U hU hW => ⟨rfl, by rw [hU]; exact hP.sub [] rfl, hKN.warm hW⟩⟩ rfl rfl hl.1 rfl (lv_room (Nat.le_of_ble_eq_true rfl)) d_Mk_leaf_21 ⟨Nat.zero_le _, Nat.zero_le _⟩) ?_
    refine pr_call (va_runSN (As := [.int (nI q), .int (al 0 (15 - 0) 0 (cs sc q 0))]) (rest := []) ⟨hx, hb, hml, hown, hts⟩ (c_TS_hash l dC dI cI (a := (nI q)) (b := al 0 (15 - 0) 0 (cs sc q 0)) ) ⟨va_cnB 2 hts (gd kw_66) rfl rfl rfl (nst_0 hKN.2) (hts _ kw_35) (by decide +kernel) ⟨Nat.le_of_ble_eq_true rfl, Nat.le_of_ble_eq_true rfl⟩, (hts _ kw_65), trivial⟩ ⟨fun a U g mk q => by obtain ⟨q0, qP, qK⟩ := q; exact ⟨q0, qP, qK.call⟩, fun U hU hW => ⟨rfl, by rw [hU]; exact hP.sub [] rfl, hKN.warm hW⟩⟩ rfl rfl hl.1 rfl (lv_room (Nat.le_of_ble_eq_true rfl)) d_Mk_leaf_24 ⟨Nat.zero_le _, Nat.zero_le _⟩) ?_
    refine lv_istore_n (lv' := [(2, .int (hh (nI q) (al 0 (15 - 0) 0 (cs sc q 0)))), (3, .int (nI 0)), (0, .int sc), (1, .int (nI q))]) hx hb d_Mk_leaf_27 rfl hl (by decide) rfl (fun ls hl => ?_)
    refine lv_iinc (k := 1) (v := (nI 1)) (lv' := [(3, .int (nI 1)), (2, .int (hh (nI q) (al 0 (15 - 0) 0 (cs sc q 0)))), (0, .int sc), (1, .int (nI q))]) hx hb d_Mk_leaf_28 hl rfl (by decide) (by decide) rfl (fun ls hl => ?_)
    refine lv_goto (tgt := 4) hx hb d_Mk_leaf_31 (by decide) ?_
    refine lv_iload_n hx hb d_Mk_leaf_4 rfl (lv_at hl 0 rfl) ?_
    refine lv_bipush (v := (nI 6)) hx hb d_Mk_leaf_5 (by decide) ?_
    refine nb_ge (tgt := 34) hx hb d_Mk_leaf_7 (by decide) (by decide) (by decide) (fun h_2 => ?_) (fun h_2 => ?_)
    · exact absurd h_2 (by decide)
    · refine lv_iload_n hx hb d_Mk_leaf_10 rfl (lv_at hl 1 rfl) ?_
      refine lv_iload_n hx hb d_Mk_leaf_11 rfl (lv_at hl 2 rfl) ?_
      refine lv_iload_n hx hb d_Mk_leaf_12 rfl (lv_at hl 3 rfl) ?_
      refine lv_iload_n hx hb d_Mk_leaf_13 rfl (lv_at hl 0 rfl) ?_
      refine pr_call (va_runS (As := [.int sc, .int (nI q), .int (nI 1)]) (rest := [.int (hh (nI q) (al 0 (15 - 0) 0 (cs sc q 0)))]) ⟨hx, hb, hml, hown, hts⟩ (c_Mk_chainStart l dC dI cI (sc := sc) (q := q) (ch := 1) ) ⟨callB_of 3 hts (gd kw_63) rfl rfl rfl (hts _ kw_36) (hts _ kw_61) (by decide +kernel) ⟨Nat.le_of_ble_eq_true rfl, Nat.le_of_ble_eq_true rfl⟩, (hts _ kw_62)⟩ ⟨fun a U g mk q => by obtain ⟨q0, qP, qK⟩ := q; exact ⟨q0, qP, qK.call⟩, fun U hU hW => ⟨rfl, by rw [hU]; exact hP.sub [] rfl, hKN.warm hW⟩⟩ rfl rfl hl.1 rfl (lv_room (Nat.le_of_ble_eq_true rfl)) d_Mk_leaf_14 ⟨Nat.zero_le _, Nat.zero_le _⟩) ?_
      refine lv_iload_n hx hb d_Mk_leaf_17 rfl (lv_at hl 0 rfl) ?_
      refine lv_iconst (v := (nI 0)) hx hb d_Mk_leaf_18 (by decide) ?_
      refine lv_bipush (v := (nI 15)) hx hb d_Mk_leaf_19 (by decide) ?_
      refine pr_call (va_runS (As := [.int (cs sc q 1), .int (nI 1), .int (nI 0), .int (nI 15)]) (rest := [.int (hh (nI q) (al 0 (15 - 0) 0 (cs sc q 0)))]) ⟨hx, hb, hml, hown, hts⟩ (c_Sg_walk l dC dI cI (x := cs sc q 1) (ch := 1) (fr := 0) (to := 15) (hfr := (by first | omega | exact dgt_le _ _)) (hto := (by first | omega | exact dgt_le _ _))) ⟨callB_of 4 hts (gd kw_71) rfl rfl rfl (hts _ kw_37) (hts _ kw_69) (by decide +kernel) ⟨Nat.le_of_ble_eq_true rfl, Nat.le_of_ble_eq_true rfl⟩, (hts _ kw_70)⟩ ⟨fun a U g mk q => by obtain ⟨q0, qP, qK⟩ := q; exact ⟨q0, qP, qK.call⟩, fun U hU hW => ⟨rfl, by rw [hU]; exact hP.sub [] rfl, hKN.warm hW⟩⟩ rfl rfl hl.1 rfl (lv_room (Nat.le_of_ble_eq_true rfl)) d_Mk_leaf_21 ⟨Nat.zero_le _, Nat.zero_le _⟩) ?_
      refine pr_call (va_runSN (As := [.int (hh (nI q) (al 0 (15 - 0) 0 (cs sc q 0))), .int (al 1 (15 - 0) 0 (cs sc q 1))]) (rest := []) ⟨hx, hb, hml, hown, hts⟩ (c_TS_hash l dC dI cI (a := hh (nI q) (al 0 (15 - 0) 0 (cs sc q 0))) (b := al 1 (15 - 0) 0 (cs sc q 1)) ) ⟨va_cnB 2 hts (gd kw_66) rfl rfl rfl (nst_0 hKN.2) (hts _ kw_35) (by decide +kernel) ⟨Nat.le_of_ble_eq_true rfl, Nat.le_of_ble_eq_true rfl⟩, (hts _ kw_65), trivial⟩ ⟨fun a U g mk q => by obtain ⟨q0, qP, qK⟩ := q; exact ⟨q0, qP, qK.call⟩, fun U hU hW => ⟨rfl, by rw [hU]; exact hP.sub [] rfl, hKN.warm hW⟩⟩ rfl rfl hl.1 rfl (lv_room (Nat.le_of_ble_eq_true rfl)) d_Mk_leaf_24 ⟨Nat.zero_le _, Nat.zero_le _⟩) ?_
      refine lv_istore_n (lv' := [(2, .int (hh (hh (nI q) (al 0 (15 - 0) 0 (cs sc q 0))) (al 1 (15 - 0) 0 (cs sc q 1)))), (3, .int (nI 1)), (0, .int sc), (1, .int (nI q))]) hx hb d_Mk_leaf_27 rfl hl (by decide) rfl (fun ls hl => ?_)
      refine lv_iinc (k := 1) (v := (nI 2)) (lv' := [(3, .int (nI 2)), (2, .int (hh (hh (nI q) (al 0 (15 - 0) 0 (cs sc q 0))) (al 1 (15 - 0) 0 (cs sc q 1)))), (0, .int sc), (1, .int (nI q))]) hx hb d_Mk_leaf_28 hl rfl (by decide) (by decide) rfl (fun ls hl => ?_)
      refine lv_goto (tgt := 4) hx hb d_Mk_leaf_31 (by decide) ?_
      refine lv_iload_n hx hb d_Mk_leaf_4 rfl (lv_at hl 0 rfl) ?_
      refine lv_bipush (v := (nI 6)) hx hb d_Mk_leaf_5 (by decide) ?_
      refine nb_ge (tgt := 34) hx hb d_Mk_leaf_7 (by decide) (by decide) (by decide) (fun h_3 => ?_) (fun h_3 => ?_)
      · exact absurd h_3 (by decide)
      · refine lv_iload_n hx hb d_Mk_leaf_10 rfl (lv_at hl 1 rfl) ?_
        refine lv_iload_n hx hb d_Mk_leaf_11 rfl (lv_at hl 2 rfl) ?_
        refine lv_iload_n hx hb d_Mk_leaf_12 rfl (lv_at hl 3 rfl) ?_
        refine lv_iload_n hx hb d_Mk_leaf_13 rfl (lv_at hl 0 rfl) ?_
        refine pr_call (va_runS (As := [.int sc, .int (nI q), .int (nI 2)]) (rest := [.int (hh (hh (nI q) (al 0 (15 - 0) 0 (cs sc q 0))) (al 1 (15 - 0) 0 (cs sc q 1)))]) ⟨hx, hb, hml, hown, hts⟩ (c_Mk_chainStart l dC dI cI (sc := sc) (q := q) (ch := 2) ) ⟨callB_of 3 hts (gd kw_63) rfl rfl rfl (hts _ kw_36) (hts _ kw_61) (by decide +kernel) ⟨Nat.le_of_ble_eq_true rfl, Nat.le_of_ble_eq_true rfl⟩, (hts _ kw_62)⟩ ⟨fun a U g mk q => by obtain ⟨q0, qP, qK⟩ := q; exact ⟨q0, qP, qK.call⟩, fun U hU hW => ⟨rfl, by rw [hU]; exact hP.sub [] rfl, hKN.warm hW⟩⟩ rfl rfl hl.1 rfl (lv_room (Nat.le_of_ble_eq_true rfl)) d_Mk_leaf_14 ⟨Nat.zero_le _, Nat.zero_le _⟩) ?_
        refine lv_iload_n hx hb d_Mk_leaf_17 rfl (lv_at hl 0 rfl) ?_
        refine lv_iconst (v := (nI 0)) hx hb d_Mk_leaf_18 (by decide) ?_
        refine lv_bipush (v := (nI 15)) hx hb d_Mk_leaf_19 (by decide) ?_
        refine pr_call (va_runS (As := [.int (cs sc q 2), .int (nI 2), .int (nI 0), .int (nI 15)]) (rest := [.int (hh (hh (nI q) (al 0 (15 - 0) 0 (cs sc q 0))) (al 1 (15 - 0) 0 (cs sc q 1)))]) ⟨hx, hb, hml, hown, hts⟩ (c_Sg_walk l dC dI cI (x := cs sc q 2) (ch := 2) (fr := 0) (to := 15) (hfr := (by first | omega | exact dgt_le _ _)) (hto := (by first | omega | exact dgt_le _ _))) ⟨callB_of 4 hts (gd kw_71) rfl rfl rfl (hts _ kw_37) (hts _ kw_69) (by decide +kernel) ⟨Nat.le_of_ble_eq_true rfl, Nat.le_of_ble_eq_true rfl⟩, (hts _ kw_70)⟩ ⟨fun a U g mk q => by obtain ⟨q0, qP, qK⟩ := q; exact ⟨q0, qP, qK.call⟩, fun U hU hW => ⟨rfl, by rw [hU]; exact hP.sub [] rfl, hKN.warm hW⟩⟩ rfl rfl hl.1 rfl (lv_room (Nat.le_of_ble_eq_true rfl)) d_Mk_leaf_21 ⟨Nat.zero_le _, Nat.zero_le _⟩) ?_
        refine pr_call (va_runSN (As := [.int (hh (hh (nI q) (al 0 (15 - 0) 0 (cs sc q 0))) (al 1 (15 - 0) 0 (cs sc q 1))), .int (al 2 (15 - 0) 0 (cs sc q 2))]) (rest := []) ⟨hx, hb, hml, hown, hts⟩ (c_TS_hash l dC dI cI (a := hh (hh (nI q) (al 0 (15 - 0) 0 (cs sc q 0))) (al 1 (15 - 0) 0 (cs sc q 1))) (b := al 2 (15 - 0) 0 (cs sc q 2)) ) ⟨va_cnB 2 hts (gd kw_66) rfl rfl rfl (nst_0 hKN.2) (hts _ kw_35) (by decide +kernel) ⟨Nat.le_of_ble_eq_true rfl, Nat.le_of_ble_eq_true rfl⟩, (hts _ kw_65), trivial⟩ ⟨fun a U g mk q => by obtain ⟨q0, qP, qK⟩ := q; exact ⟨q0, qP, qK.call⟩, fun U hU hW => ⟨rfl, by rw [hU]; exact hP.sub [] rfl, hKN.warm hW⟩⟩ rfl rfl hl.1 rfl (lv_room (Nat.le_of_ble_eq_true rfl)) d_Mk_leaf_24 ⟨Nat.zero_le _, Nat.zero_le _⟩) ?_
        refine lv_istore_n (lv' := [(2, .int (hh (hh (hh (nI q) (al 0 (15 - 0) 0 (cs sc q 0))) (al 1 (15 - 0) 0 (cs sc q 1))) (al 2 (15 - 0) 0 (cs sc q 2)))), (3, .int (nI 2)), (0, .int sc), (1, .int (nI q))]) hx hb d_Mk_leaf_27 rfl hl (by decide) rfl (fun ls hl => ?_)
        refine lv_iinc (k := 1) (v := (nI 3)) (lv' := [(3, .int (nI 3)), (2, .int (hh (hh (hh (nI q) (al 0 (15 - 0) 0 (cs sc q 0))) (al 1 (15 - 0) 0 (cs sc q 1))) (al 2 (15 - 0) 0 (cs sc q 2)))), (0, .int sc), (1, .int (nI q))]) hx hb d_Mk_leaf_28 hl rfl (by decide) (by decide) rfl (fun ls hl => ?_)
        refine lv_goto (tgt := 4) hx hb d_Mk_leaf_31 (by decide) ?_
        refine lv_iload_n hx hb d_Mk_leaf_4 rfl (lv_at hl 0 rfl) ?_
        refine lv_bipush (v := (nI 6)) hx hb d_Mk_leaf_5 (by decide) ?_
        refine nb_ge (tgt := 34) hx hb d_Mk_leaf_7 (by decide) (by decide) (by decide) (fun h_4 => ?_) (fun h_4 => ?_)
        · exact absurd h_4 (by decide)
        · refine lv_iload_n hx hb d_Mk_leaf_10 rfl (lv_at hl 1 rfl) ?_
          refine lv_iload_n hx hb d_Mk_leaf_11 rfl (lv_at hl 2 rfl) ?_
          refine lv_iload_n hx hb d_Mk_leaf_12 rfl (lv_at hl 3 rfl) ?_
          refine lv_iload_n hx hb d_Mk_leaf_13 rfl (lv_at hl 0 rfl) ?_
          refine pr_call (va_runS (As := [.int sc, .int (nI q), .int (nI 3)]) (rest := [.int (hh (hh (hh (nI q) (al 0 (15 - 0) 0 (cs sc q 0))) (al 1 (15 - 0) 0 (cs sc q 1))) (al 2 (15 - 0) 0 (cs sc q 2)))]) ⟨hx, hb, hml, hown, hts⟩ (c_Mk_chainStart l dC dI cI (sc := sc) (q := q) (ch := 3) ) ⟨callB_of 3 hts (gd kw_63) rfl rfl rfl (hts _ kw_36) (hts _ kw_61) (by decide +kernel) ⟨Nat.le_of_ble_eq_true rfl, Nat.le_of_ble_eq_true rfl⟩, (hts _ kw_62)⟩ ⟨fun a U g mk q => by obtain ⟨q0, qP, qK⟩ := q; exact ⟨q0, qP, qK.call⟩, fun U hU hW => ⟨rfl, by rw [hU]; exact hP.sub [] rfl, hKN.warm hW⟩⟩ rfl rfl hl.1 rfl (lv_room (Nat.le_of_ble_eq_true rfl)) d_Mk_leaf_14 ⟨Nat.zero_le _, Nat.zero_le _⟩) ?_
          refine lv_iload_n hx hb d_Mk_leaf_17 rfl (lv_at hl 0 rfl) ?_
          refine lv_iconst (v := (nI 0)) hx hb d_Mk_leaf_18 (by decide) ?_
          refine lv_bipush (v := (nI 15)) hx hb d_Mk_leaf_19 (by decide) ?_
          refine pr_call (va_runS (As := [.int (cs sc q 3), .int (nI 3), .int (nI 0), .int (nI 15)]) (rest := [.int (hh (hh (hh (nI q) (al 0 (15 - 0) 0 (cs sc q 0))) (al 1 (15 - 0) 0 (cs sc q 1))) (al 2 (15 - 0) 0 (cs sc q 2)))]) ⟨hx, hb, hml, hown, hts⟩ (c_Sg_walk l dC dI cI (x := cs sc q 3) (ch := 3) (fr := 0) (to := 15) (hfr := (by first | omega | exact dgt_le _ _)) (hto := (by first | omega | exact dgt_le _ _))) ⟨callB_of 4 hts (gd kw_71) rfl rfl rfl (hts _ kw_37) (hts _ kw_69) (by decide +kernel) ⟨Nat.le_of_ble_eq_true rfl, Nat.le_of_ble_eq_true rfl⟩, (hts _ kw_70)⟩ ⟨fun a U g mk q => by obtain ⟨q0, qP, qK⟩ := q; exact ⟨q0, qP, qK.call⟩, fun U hU hW => ⟨rfl, by rw [hU]; exact hP.sub [] rfl, hKN.warm hW⟩⟩ rfl rfl hl.1 rfl (lv_room (Nat.le_of_ble_eq_true rfl)) d_Mk_leaf_21 ⟨Nat.zero_le _, Nat.zero_le _⟩) ?_
          refine pr_call (va_runSN (As := [.int (hh (hh (hh (nI q) (al 0 (15 - 0) 0 (cs sc q 0))) (al 1 (15 - 0) 0 (cs sc q 1))) (al 2 (15 - 0) 0 (cs sc q 2))), .int (al 3 (15 - 0) 0 (cs sc q 3))]) (rest := []) ⟨hx, hb, hml, hown, hts⟩ (c_TS_hash l dC dI cI (a := hh (hh (hh (nI q) (al 0 (15 - 0) 0 (cs sc q 0))) (al 1 (15 - 0) 0 (cs sc q 1))) (al 2 (15 - 0) 0 (cs sc q 2))) (b := al 3 (15 - 0) 0 (cs sc q 3)) ) ⟨va_cnB 2 hts (gd kw_66) rfl rfl rfl (nst_0 hKN.2) (hts _ kw_35) (by decide +kernel) ⟨Nat.le_of_ble_eq_true rfl, Nat.le_of_ble_eq_true rfl⟩, (hts _ kw_65), trivial⟩ ⟨fun a U g mk q => by obtain ⟨q0, qP, qK⟩ := q; exact ⟨q0, qP, qK.call⟩, fun U hU hW => ⟨rfl, by rw [hU]; exact hP.sub [] rfl, hKN.warm hW⟩⟩ rfl rfl hl.1 rfl (lv_room (Nat.le_of_ble_eq_true rfl)) d_Mk_leaf_24 ⟨Nat.zero_le _, Nat.zero_le _⟩) ?_
          refine lv_istore_n (lv' := [(2, .int (hh (hh (hh (hh (nI q) (al 0 (15 - 0) 0 (cs sc q 0))) (al 1 (15 - 0) 0 (cs sc q 1))) (al 2 (15 - 0) 0 (cs sc q 2))) (al 3 (15 - 0) 0 (cs sc q 3)))), (3, .int (nI 3)), (0, .int sc), (1, .int (nI q))]) hx hb d_Mk_leaf_27 rfl hl (by decide) rfl (fun ls hl => ?_)
          refine lv_iinc (k := 1) (v := (nI 4)) (lv' := [(3, .int (nI 4)), (2, .int (hh (hh (hh (hh (nI q) (al 0 (15 - 0) 0 (cs sc q 0))) (al 1 (15 - 0) 0 (cs sc q 1))) (al 2 (15 - 0) 0 (cs sc q 2))) (al 3 (15 - 0) 0 (cs sc q 3)))), (0, .int sc), (1, .int (nI q))]) hx hb d_Mk_leaf_28 hl rfl (by decide) (by decide) rfl (fun ls hl => ?_)
          refine lv_goto (tgt := 4) hx hb d_Mk_leaf_31 (by decide) ?_
          refine lv_iload_n hx hb d_Mk_leaf_4 rfl (lv_at hl 0 rfl) ?_
          refine lv_bipush (v := (nI 6)) hx hb d_Mk_leaf_5 (by decide) ?_
          refine nb_ge (tgt := 34) hx hb d_Mk_leaf_7 (by decide) (by decide) (by decide) (fun h_5 => ?_) (fun h_5 => ?_)
          · exact absurd h_5 (by decide)
          · refine lv_iload_n hx hb d_Mk_leaf_10 rfl (lv_at hl 1 rfl) ?_
            refine lv_iload_n hx hb d_Mk_leaf_11 rfl (lv_at hl 2 rfl) ?_
            refine lv_iload_n hx hb d_Mk_leaf_12 rfl (lv_at hl 3 rfl) ?_
            refine lv_iload_n hx hb d_Mk_leaf_13 rfl (lv_at hl 0 rfl) ?_
            refine pr_call (va_runS (As := [.int sc, .int (nI q), .int (nI 4)]) (rest := [.int (hh (hh (hh (hh (nI q) (al 0 (15 - 0) 0 (cs sc q 0))) (al 1 (15 - 0) 0 (cs sc q 1))) (al 2 (15 - 0) 0 (cs sc q 2))) (al 3 (15 - 0) 0 (cs sc q 3)))]) ⟨hx, hb, hml, hown, hts⟩ (c_Mk_chainStart l dC dI cI (sc := sc) (q := q) (ch := 4) ) ⟨callB_of 3 hts (gd kw_63) rfl rfl rfl (hts _ kw_36) (hts _ kw_61) (by decide +kernel) ⟨Nat.le_of_ble_eq_true rfl, Nat.le_of_ble_eq_true rfl⟩, (hts _ kw_62)⟩ ⟨fun a U g mk q => by obtain ⟨q0, qP, qK⟩ := q; exact ⟨q0, qP, qK.call⟩, fun U hU hW => ⟨rfl, by rw [hU]; exact hP.sub [] rfl, hKN.warm hW⟩⟩ rfl rfl hl.1 rfl (lv_room (Nat.le_of_ble_eq_true rfl)) d_Mk_leaf_14 ⟨Nat.zero_le _, Nat.zero_le _⟩) ?_
            refine lv_iload_n hx hb d_Mk_leaf_17 rfl (lv_at hl 0 rfl) ?_
            refine lv_iconst (v := (nI 0)) hx hb d_Mk_leaf_18 (by decide) ?_
            refine lv_bipush (v := (nI 15)) hx hb d_Mk_leaf_19 (by decide) ?_
            refine pr_call (va_runS (As := [.int (cs sc q 4), .int (nI 4), .int (nI 0), .int (nI 15)]) (rest := [.int (hh (hh (hh (hh (nI q) (al 0 (15 - 0) 0 (cs sc q 0))) (al 1 (15 - 0) 0 (cs sc q 1))) (al 2 (15 - 0) 0 (cs sc q 2))) (al 3 (15 - 0) 0 (cs sc q 3)))]) ⟨hx, hb, hml, hown, hts⟩ (c_Sg_walk l dC dI cI (x := cs sc q 4) (ch := 4) (fr := 0) (to := 15) (hfr := (by first | omega | exact dgt_le _ _)) (hto := (by first | omega | exact dgt_le _ _))) ⟨callB_of 4 hts (gd kw_71) rfl rfl rfl (hts _ kw_37) (hts _ kw_69) (by decide +kernel) ⟨Nat.le_of_ble_eq_true rfl, Nat.le_of_ble_eq_true rfl⟩, (hts _ kw_70)⟩ ⟨fun a U g mk q => by obtain ⟨q0, qP, qK⟩ := q; exact ⟨q0, qP, qK.call⟩, fun U hU hW => ⟨rfl, by rw [hU]; exact hP.sub [] rfl, hKN.warm hW⟩⟩ rfl rfl hl.1 rfl (lv_room (Nat.le_of_ble_eq_true rfl)) d_Mk_leaf_21 ⟨Nat.zero_le _, Nat.zero_le _⟩) ?_
            refine pr_call (va_runSN (As := [.int (hh (hh (hh (hh (nI q) (al 0 (15 - 0) 0 (cs sc q 0))) (al 1 (15 - 0) 0 (cs sc q 1))) (al 2 (15 - 0) 0 (cs sc q 2))) (al 3 (15 - 0) 0 (cs sc q 3))), .int (al 4 (15 - 0) 0 (cs sc q 4))]) (rest := []) ⟨hx, hb, hml, hown, hts⟩ (c_TS_hash l dC dI cI (a := hh (hh (hh (hh (nI q) (al 0 (15 - 0) 0 (cs sc q 0))) (al 1 (15 - 0) 0 (cs sc q 1))) (al 2 (15 - 0) 0 (cs sc q 2))) (al 3 (15 - 0) 0 (cs sc q 3))) (b := al 4 (15 - 0) 0 (cs sc q 4)) ) ⟨va_cnB 2 hts (gd kw_66) rfl rfl rfl (nst_0 hKN.2) (hts _ kw_35) (by decide +kernel) ⟨Nat.le_of_ble_eq_true rfl, Nat.le_of_ble_eq_true rfl⟩, (hts _ kw_65), trivial⟩ ⟨fun a U g mk q => by obtain ⟨q0, qP, qK⟩ := q; exact ⟨q0, qP, qK.call⟩, fun U hU hW => ⟨rfl, by rw [hU]; exact hP.sub [] rfl, hKN.warm hW⟩⟩ rfl rfl hl.1 rfl (lv_room (Nat.le_of_ble_eq_true rfl)) d_Mk_leaf_24 ⟨Nat.zero_le _, Nat.zero_le _⟩) ?_
            refine lv_istore_n (lv' := [(2, .int (hh (hh (hh (hh (hh (nI q) (al 0 (15 - 0) 0 (cs sc q 0))) (al 1 (15 - 0) 0 (cs sc q 1))) (al 2 (15 - 0) 0 (cs sc q 2))) (al 3 (15 - 0) 0 (cs sc q 3))) (al 4 (15 - 0) 0 (cs sc q 4)))), (3, .int (nI 4)), (0, .int sc), (1, .int (nI q))]) hx hb d_Mk_leaf_27 rfl hl (by decide) rfl (fun ls hl => ?_)
            refine lv_iinc (k := 1) (v := (nI 5)) (lv' := [(3, .int (nI 5)), (2, .int (hh (hh (hh (hh (hh (nI q) (al 0 (15 - 0) 0 (cs sc q 0))) (al 1 (15 - 0) 0 (cs sc q 1))) (al 2 (15 - 0) 0 (cs sc q 2))) (al 3 (15 - 0) 0 (cs sc q 3))) (al 4 (15 - 0) 0 (cs sc q 4)))), (0, .int sc), (1, .int (nI q))]) hx hb d_Mk_leaf_28 hl rfl (by decide) (by decide) rfl (fun ls hl => ?_)
            refine lv_goto (tgt := 4) hx hb d_Mk_leaf_31 (by decide) ?_
            refine lv_iload_n hx hb d_Mk_leaf_4 rfl (lv_at hl 0 rfl) ?_
            refine lv_bipush (v := (nI 6)) hx hb d_Mk_leaf_5 (by decide) ?_
            refine nb_ge (tgt := 34) hx hb d_Mk_leaf_7 (by decide) (by decide) (by decide) (fun h_6 => ?_) (fun h_6 => ?_)
            · exact absurd h_6 (by decide)
            · refine lv_iload_n hx hb d_Mk_leaf_10 rfl (lv_at hl 1 rfl) ?_
              refine lv_iload_n hx hb d_Mk_leaf_11 rfl (lv_at hl 2 rfl) ?_
              refine lv_iload_n hx hb d_Mk_leaf_12 rfl (lv_at hl 3 rfl) ?_
              refine lv_iload_n hx hb d_Mk_leaf_13 rfl (lv_at hl 0 rfl) ?_
              refine pr_call (va_runS (As := [.int sc, .int (nI q), .int (nI 5)]) (rest := [.int (hh (hh (hh (hh (hh (nI q) (al 0 (15 - 0) 0 (cs sc q 0))) (al 1 (15 - 0) 0 (cs sc q 1))) (al 2 (15 - 0) 0 (cs sc q 2))) (al 3 (15 - 0) 0 (cs sc q 3))) (al 4 (15 - 0) 0 (cs sc q 4)))]) ⟨hx, hb, hml, hown, hts⟩ (c_Mk_chainStart l dC dI cI (sc := sc) (q := q) (ch := 5) ) ⟨callB_of 3 hts (gd kw_63) rfl rfl rfl (hts _ kw_36) (hts _ kw_61) (by decide +kernel) ⟨Nat.le_of_ble_eq_true rfl, Nat.le_of_ble_eq_true rfl⟩, (hts _ kw_62)⟩ ⟨fun a U g mk q => by obtain ⟨q0, qP, qK⟩ := q; exact ⟨q0, qP, qK.call⟩, fun U hU hW => ⟨rfl, by rw [hU]; exact hP.sub [] rfl, hKN.warm hW⟩⟩ rfl rfl hl.1 rfl (lv_room (Nat.le_of_ble_eq_true rfl)) d_Mk_leaf_14 ⟨Nat.zero_le _, Nat.zero_le _⟩) ?_
              refine lv_iload_n hx hb d_Mk_leaf_17 rfl (lv_at hl 0 rfl) ?_
              refine lv_iconst (v := (nI 0)) hx hb d_Mk_leaf_18 (by decide) ?_
              refine lv_bipush (v := (nI 15)) hx hb d_Mk_leaf_19 (by decide) ?_
              refine pr_call (va_runS (As := [.int (cs sc q 5), .int (nI 5), .int (nI 0), .int (nI 15)]) (rest := [.int (hh (hh (hh (hh (hh (nI q) (al 0 (15 - 0) 0 (cs sc q 0))) (al 1 (15 - 0) 0 (cs sc q 1))) (al 2 (15 - 0) 0 (cs sc q 2))) (al 3 (15 - 0) 0 (cs sc q 3))) (al 4 (15 - 0) 0 (cs sc q 4)))]) ⟨hx, hb, hml, hown, hts⟩ (c_Sg_walk l dC dI cI (x := cs sc q 5) (ch := 5) (fr := 0) (to := 15) (hfr := (by first | omega | exact dgt_le _ _)) (hto := (by first | omega | exact dgt_le _ _))) ⟨callB_of 4 hts (gd kw_71) rfl rfl rfl (hts _ kw_37) (hts _ kw_69) (by decide +kernel) ⟨Nat.le_of_ble_eq_true rfl, Nat.le_of_ble_eq_true rfl⟩, (hts _ kw_70)⟩ ⟨fun a U g mk q => by obtain ⟨q0, qP, qK⟩ := q; exact ⟨q0, qP, qK.call⟩, fun U hU hW => ⟨rfl, by rw [hU]; exact hP.sub [] rfl, hKN.warm hW⟩⟩ rfl rfl hl.1 rfl (lv_room (Nat.le_of_ble_eq_true rfl)) d_Mk_leaf_21 ⟨Nat.zero_le _, Nat.zero_le _⟩) ?_
              refine pr_call (va_runSN (As := [.int (hh (hh (hh (hh (hh (nI q) (al 0 (15 - 0) 0 (cs sc q 0))) (al 1 (15 - 0) 0 (cs sc q 1))) (al 2 (15 - 0) 0 (cs sc q 2))) (al 3 (15 - 0) 0 (cs sc q 3))) (al 4 (15 - 0) 0 (cs sc q 4))), .int (al 5 (15 - 0) 0 (cs sc q 5))]) (rest := []) ⟨hx, hb, hml, hown, hts⟩ (c_TS_hash l dC dI cI (a := hh (hh (hh (hh (hh (nI q) (al 0 (15 - 0) 0 (cs sc q 0))) (al 1 (15 - 0) 0 (cs sc q 1))) (al 2 (15 - 0) 0 (cs sc q 2))) (al 3 (15 - 0) 0 (cs sc q 3))) (al 4 (15 - 0) 0 (cs sc q 4))) (b := al 5 (15 - 0) 0 (cs sc q 5)) ) ⟨va_cnB 2 hts (gd kw_66) rfl rfl rfl (nst_0 hKN.2) (hts _ kw_35) (by decide +kernel) ⟨Nat.le_of_ble_eq_true rfl, Nat.le_of_ble_eq_true rfl⟩, (hts _ kw_65), trivial⟩ ⟨fun a U g mk q => by obtain ⟨q0, qP, qK⟩ := q; exact ⟨q0, qP, qK.call⟩, fun U hU hW => ⟨rfl, by rw [hU]; exact hP.sub [] rfl, hKN.warm hW⟩⟩ rfl rfl hl.1 rfl (lv_room (Nat.le_of_ble_eq_true rfl)) d_Mk_leaf_24 ⟨Nat.zero_le _, Nat.zero_le _⟩) ?_
              refine lv_istore_n (lv' := [(2, .int (hh (hh (hh (hh (hh (hh (nI q) (al 0 (15 - 0) 0 (cs sc q 0))) (al 1 (15 - 0) 0 (cs sc q 1))) (al 2 (15 - 0) 0 (cs sc q 2))) (al 3 (15 - 0) 0 (cs sc q 3))) (al 4 (15 - 0) 0 (cs sc q 4))) (al 5 (15 - 0) 0 (cs sc q 5)))), (3, .int (nI 5)), (0, .int sc), (1, .int (nI q))]) hx hb d_Mk_leaf_27 rfl hl (by decide) rfl (fun ls hl => ?_)
              refine lv_iinc (k := 1) (v := (nI 6)) (lv' := [(3, .int (nI 6)), (2, .int (hh (hh (hh (hh (hh (hh (nI q) (al 0 (15 - 0) 0 (cs sc q 0))) (al 1 (15 - 0) 0 (cs sc q 1))) (al 2 (15 - 0) 0 (cs sc q 2))) (al 3 (15 - 0) 0 (cs sc q 3))) (al 4 (15 - 0) 0 (cs sc q 4))) (al 5 (15 - 0) 0 (cs sc q 5)))), (0, .int sc), (1, .int (nI q))]) hx hb d_Mk_leaf_28 hl rfl (by decide) (by decide) rfl (fun ls hl => ?_)
              refine lv_goto (tgt := 4) hx hb d_Mk_leaf_31 (by decide) ?_
              refine lv_iload_n hx hb d_Mk_leaf_4 rfl (lv_at hl 0 rfl) ?_
              refine lv_bipush (v := (nI 6)) hx hb d_Mk_leaf_5 (by decide) ?_
              refine nb_ge (tgt := 34) hx hb d_Mk_leaf_7 (by decide) (by decide) (by decide) (fun h_7 => ?_) (fun h_7 => ?_)
              · refine lv_iload_n hx hb d_Mk_leaf_34 rfl (lv_at hl 1 rfl) ?_
                exact W.iret (v := (hh (hh (hh (hh (hh (hh (nI q) (al 0 (15 - 0) 0 (cs sc q 0))) (al 1 (15 - 0) 0 (cs sc q 1))) (al 2 (15 - 0) 0 (cs sc q 2))) (al 3 (15 - 0) 0 (cs sc q 3))) (al 4 (15 - 0) 0 (cs sc q 4))) (al 5 (15 - 0) 0 (cs sc q 5)))) hx hb hr (fun t ht hW => ⟨_, rfl, (by first | rfl | (simp only []; done) | (simp only []; rfl) | (simp []; done)), ht⟩) (fun q h => by cases h) d_Mk_leaf_35
              · exact absurd h_7 (by decide)
set_option maxHeartbeats 4000000 in
set_option maxRecDepth 100000 in
theorem c_Mk_putChains (l : Launch) (dC : Nat → ClassId) (dI : Nat → Nat → Nat) (cI : ClassId) (hm : Nat) (ha : Nat) (b : Nat) (sc : Int32) (hn : Nat) (nk : Nat) (N : Nat) (f : Nat → Int32) (hN : N < 2 ^ 31) (hbN : b + 17 ≤ N) (sz : Nat) : Met l y_Mk_putChains w_Mk_putChains ({ frames := 2, cells := 0, slots := 0, locals := 47 }) (va_Pc [.ref hm, .ref ha, .int (nI b)] (fun U => U.heap.size = sz ∧ va_P (dC, dI) classes [(hm, .inr (1, [.int sc, .ref hn, .int (nI nk)])), (ha, .inl (cI, N, .inl f))] U.heap ∧ KN dC dI cI U ∧ va_D (fun _ => True) [(hm, .inr (1, [.int sc, .ref hn, .int (nI nk)])), (ha, .inl (cI, N, .inl f))])) (va_Qv (fun u : (Nat → Int32) => putCh sc nk b f = u) (fun (u : (Nat → Int32)) t => va_P (dC, dI) classes [(hm, .inr (1, [.int sc, .ref hn, .int (nI nk)])), (ha, .inl (cI, N, .inl u))] t.heap ∧ va_D (va_A [(hm, .inr (1, [.int sc, .ref hn, .int (nI nk)])), (ha, .inl (cI, N, .inl f))] sz) [(hm, .inr (1, [.int sc, .ref hn, .int (nI nk)])), (ha, .inl (cI, N, .inl u))]) (va_A [(hm, .inr (1, [.int sc, .ref hn, .int (nI nk)])), (ha, .inl (cI, N, .inl f))] sz)) 0 0 (va_A [(hm, .inr (1, [.int sc, .ref hn, .int (nI nk)])), (ha, .inl (cI, N, .inl f))] sz) := by
  refine Met.ofW (cc := b_Mk_putChains) (maxL := 6) (ret := none) (by decide) rfl ?_
  intro p e s m args below meth c s₁ B hml hv
  obtain ⟨rfl, hsz, hP, hKN, hD0⟩ := hv
  have hK := hKN.1
  have hx := B.exec
  have hb := B.bytes
  have hr := B.returns
  have hts := fun (w : Cond) (h : w ∈ gt) => atoms_spec (ws := w_Mk_putChains) B.pre w (List.mem_cons_of_mem _ h)
  have hown : s.vm.findClass R_Mk = some m.cls := findClass_of_methodNamed B.named
  have hlocks := B.notSynchronized
  subst hsz
  have hD := hD0.self (sz := s.heap.size)
  generalize hAe : va_A [(hm, .inr (1, [.int sc, .ref hn, .int (nI nk)])), (ha, .inl (cI, N, .inl f))] s.heap.size = A at hD ⊢
  have hA : ∀ q : Nat, s.heap.size ≤ q → A q := fun q h => by rw [← hAe]; exact Or.inr h
  have hS : va_S A s.heap s.heap [] := va_S.rf
  have hP : va_P (dC, dI) classes [(hm, .inr (1, [.int sc, .ref hn, .int (nI nk)])), (ha, .inl (cI, N, .inl f))] s.heap := hP
  clear hAe hD0
  have hl := lv_entry ([.ref hm, .ref ha, .int (nI b)]) (n := 6) (Nat.le_of_ble_eq_true rfl)
  rw [lg_entry_eq]
  generalize (lg_sl ([.ref hm, .ref ha, .int (nI b)]) ++ List.replicate (6 - (lg_sl ([.ref hm, .ref ha, .int (nI b)])).length) Slot.unset).toArray = ls at hl ⊢
  have hl : lv_has ls 6 [(0, .ref hm), (1, .ref ha), (2, .int (nI b))] := hl
  refine lv_aload_n hx hb d_Mk_putChains_0 rfl (lv_at hl 1 rfl) ?_
  refine lv_iload_n hx hb d_Mk_putChains_1 rfl (lv_at hl 2 rfl) ?_
  refine pr_call (va_runS (As := [.ref ha, .int (nI b)]) (rest := []) ⟨hx, hb, hml, hown, hts⟩ (c_Sg_message l dC dI cI (ha := ha) (b := b) (N := N) (f := f) (hN := (by omega)) (hbN := (by omega))) ⟨callB_of 2 hts (gd kw_104) rfl rfl rfl (hts _ kw_37) (hts _ kw_102) (by decide +kernel) ⟨Nat.le_of_ble_eq_true rfl, Nat.le_of_ble_eq_true rfl⟩, (hts _ kw_103)⟩ ⟨fun a U g mk q => by obtain ⟨q0, qP, qK⟩ := q; exact ⟨q0, qP, qK.call⟩, fun U hU hW => ⟨rfl, by rw [hU]; exact hP.sub [1] rfl, hKN.warm hW⟩⟩ rfl rfl hl.1 rfl (lv_room (Nat.le_of_ble_eq_true rfl)) d_Mk_putChains_2 ⟨Nat.zero_le _, Nat.zero_le _⟩) ?_
  refine lv_istore_n (lv' := [(3, .int (ms4 (fun i => f (b + i)))), (0, .ref hm), (1, .ref ha), (2, .int (nI b))]) hx hb d_Mk_putChains_5 rfl hl (by decide) rfl (fun ls hl => ?_)
  refine lv_iconst (v := (nI 0)) hx hb d_Mk_putChains_6 (by decide) ?_
  refine lv_istore (lv' := [(4, .int (nI 0)), (3, .int (ms4 (fun i => f (b + i)))), (0, .ref hm), (1, .ref ha), (2, .int (nI b))]) hx hb d_Mk_putChains_7 hl (by decide) rfl (fun ls hl => ?_)
  refine lv_iload hx hb d_Mk_putChains_9 (lv_at hl 0 rfl) ?_
  refine lv_bipush (v := (nI 6)) hx hb d_Mk_putChains_11 (by decide) ?_
  refine nb_ge (tgt := 59) hx hb d_Mk_putChains_13 (by decide) (by decide) (by decide) (fun h_1 => ?_) (fun h_1 => ?_)
  · exact absurd h_1 (by decide)
  · refine lv_aload_n hx hb d_Mk_putChains_16 rfl (lv_at hl 2 rfl) ?_
    refine va_get (D := (dC, dI)) (ci := 1) (v := .int sc) (C := R_Mk) (T := F_Mk) (N := 3) hx hb hts in_Mk hown hK hP 0 rfl rfl 0 (by decide) (hts _ kw_76) (fun _ h9 => h9) rfl d_Mk_putChains_17 ?_
    refine lv_aload_n hx hb d_Mk_putChains_20 rfl (lv_at hl 2 rfl) ?_
    refine va_get (D := (dC, dI)) (ci := 1) (v := .int (nI nk)) (C := R_Mk) (T := F_Mk) (N := 3) hx hb hts in_Mk hown hK hP 0 rfl rfl 2 (by decide) (hts _ kw_78) (fun _ h9 => h9) rfl d_Mk_putChains_21 ?_
    refine lv_iload hx hb d_Mk_putChains_24 (lv_at hl 0 rfl) ?_
    refine pr_call (va_runS (As := [.int sc, .int (nI nk), .int (nI 0)]) (rest := []) ⟨hx, hb, hml, hown, hts⟩ (c_Mk_chainStart l dC dI cI (sc := sc) (q := nk) (ch := 0) ) ⟨callB_of 3 hts (gd kw_63) rfl rfl rfl (hts _ kw_36) (hts _ kw_61) (by decide +kernel) ⟨Nat.le_of_ble_eq_true rfl, Nat.le_of_ble_eq_true rfl⟩, (hts _ kw_62)⟩ ⟨fun a U g mk q => by obtain ⟨q0, qP, qK⟩ := q; exact ⟨q0, qP, qK.call⟩, fun U hU hW => ⟨rfl, by rw [hU]; exact hP.sub [] rfl, hKN.warm hW⟩⟩ rfl rfl hl.1 rfl (lv_room (Nat.le_of_ble_eq_true rfl)) d_Mk_putChains_26 ⟨Nat.zero_le _, Nat.zero_le _⟩) ?_
    refine lv_istore (lv' := [(5, .int (cs sc nk 0)), (4, .int (nI 0)), (3, .int (ms4 (fun i => f (b + i)))), (0, .ref hm), (1, .ref ha), (2, .int (nI b))]) hx hb d_Mk_putChains_29 hl (by decide) rfl (fun ls hl => ?_)
    refine lv_aload_n hx hb d_Mk_putChains_31 rfl (lv_at hl 4 rfl) ?_
    refine lv_iload_n hx hb d_Mk_putChains_32 rfl (lv_at hl 5 rfl) ?_
    refine lv_iconst (v := (nI 5)) hx hb d_Mk_putChains_33 (by decide) ?_
    refine lv_iadd hx hb d_Mk_putChains_34 ?_
    refine tp (nI_add _ _) ?_
    refine lv_iload hx hb d_Mk_putChains_35 (lv_at hl 1 rfl) ?_
    refine lv_iadd hx hb d_Mk_putChains_37 ?_
    refine tp (y := (nI (b + 5))) (nI_add _ _) ?_
    refine lv_iload hx hb d_Mk_putChains_38 (lv_at hl 0 rfl) ?_
    refine lv_iload hx hb d_Mk_putChains_40 (lv_at hl 1 rfl) ?_
    refine lv_iconst (v := (nI 0)) hx hb d_Mk_putChains_42 (by decide) ?_
    refine lv_iload_n hx hb d_Mk_putChains_43 rfl (lv_at hl 2 rfl) ?_
    refine lv_iload hx hb d_Mk_putChains_44 (lv_at hl 1 rfl) ?_
    refine pr_call (va_runS (As := [.int (ms4 (fun i => f (b + i))), .int (nI 0)]) (rest := [.int (nI 0), .int (nI 0), .int (cs sc nk 0), .int (nI (b + 5)), .ref ha]) ⟨hx, hb, hml, hown, hts⟩ (c_Sg_digit l dC dI cI (mm := ms4 (fun i => f (b + i))) (ch := 0) (hch := (by omega))) ⟨callB_of 2 hts (gd kw_107) rfl rfl rfl (hts _ kw_37) (hts _ kw_105) (by decide +kernel) ⟨Nat.le_of_ble_eq_true rfl, Nat.le_of_ble_eq_true rfl⟩, (hts _ kw_106)⟩ ⟨fun a U g mk q => by obtain ⟨q0, qP, qK⟩ := q; exact ⟨q0, qP, qK.call⟩, fun U hU hW => ⟨rfl, by rw [hU]; exact hP.sub [] rfl, hKN.warm hW⟩⟩ rfl rfl hl.1 rfl (lv_room (Nat.le_of_ble_eq_true rfl)) d_Mk_putChains_46 ⟨Nat.zero_le _, Nat.zero_le _⟩) ?_
    refine pr_call (va_runS (As := [.int (cs sc nk 0), .int (nI 0), .int (nI 0), .int (nI (dgt (ms4 (fun i => f (b + i))) 0))]) (rest := [.int (nI (b + 5)), .ref ha]) ⟨hx, hb, hml, hown, hts⟩ (c_Sg_walk l dC dI cI (x := cs sc nk 0) (ch := 0) (fr := 0) (to := dgt (ms4 (fun i => f (b + i))) 0) (hfr := (by first | omega | exact dgt_le _ _)) (hto := (by first | omega | exact dgt_le _ _))) ⟨callB_of 4 hts (gd kw_71) rfl rfl rfl (hts _ kw_37) (hts _ kw_69) (by decide +kernel) ⟨Nat.le_of_ble_eq_true rfl, Nat.le_of_ble_eq_true rfl⟩, (hts _ kw_70)⟩ ⟨fun a U g mk q => by obtain ⟨q0, qP, qK⟩ := q; exact ⟨q0, qP, qK.call⟩, fun U hU hW => ⟨rfl, by rw [hU]; exact hP.sub [] rfl, hKN.warm hW⟩⟩ rfl rfl hl.1 rfl (lv_room (Nat.le_of_ble_eq_true rfl)) d_Mk_putChains_49 ⟨Nat.zero_le _, Nat.zero_le _⟩) ?_
    refine ar_st (k := b + 5) hx hb hK hP hD hS 1 0 rfl rfl (by omega) (by first | decide | omega) d_Mk_putChains_52 (fun H locs hP hD hS => ?_)
    have hP : va_P (dC, dI) classes [(hm, .inr (1, [.int sc, .ref hn, .int (nI nk)])), (ha, .inl (cI, N, .inl (upd f (b + 5) (al 0 ((dgt (ms4 (fun i => f (b + i))) 0) - 0) 0 (cs sc nk 0)))))] H := hP
    have hD : va_D A [(hm, .inr (1, [.int sc, .ref hn, .int (nI nk)])), (ha, .inl (cI, N, .inl (upd f (b + 5) (al 0 ((dgt (ms4 (fun i => f (b + i))) 0) - 0) 0 (cs sc nk 0)))))] := hD
    refine lv_iinc (k := 1) (v := (nI 1)) (lv' := [(4, .int (nI 1)), (5, .int (cs sc nk 0)), (3, .int (ms4 (fun i => f (b + i)))), (0, .ref hm), (1, .ref ha), (2, .int (nI b))]) hx hb d_Mk_putChains_53 hl rfl (by decide) (by decide) rfl (fun ls hl => ?_)
    refine lv_goto (tgt := 9) hx hb d_Mk_putChains_56 (by decide) ?_
    refine lv_iload hx hb d_Mk_putChains_9 (lv_at hl 0 rfl) ?_
    refine lv_bipush (v := (nI 6)) hx hb d_Mk_putChains_11 (by decide) ?_
    refine nb_ge (tgt := 59) hx hb d_Mk_putChains_13 (by decide) (by decide) (by decide) (fun h_2 => ?_) (fun h_2 => ?_)
    · exact absurd h_2 (by decide)
    · refine lv_aload_n hx hb d_Mk_putChains_16 rfl (lv_at hl 3 rfl) ?_
      refine va_get (D := (dC, dI)) (ci := 1) (v := .int sc) (C := R_Mk) (T := F_Mk) (N := 3) hx hb hts in_Mk hown hK hP 0 rfl rfl 0 (by decide) (hts _ kw_76) (fun _ h9 => h9) rfl d_Mk_putChains_17 ?_
      refine lv_aload_n hx hb d_Mk_putChains_20 rfl (lv_at hl 3 rfl) ?_
      refine va_get (D := (dC, dI)) (ci := 1) (v := .int (nI nk)) (C := R_Mk) (T := F_Mk) (N := 3) hx hb hts in_Mk hown hK hP 0 rfl rfl 2 (by decide) (hts _ kw_78) (fun _ h9 => h9) rfl d_Mk_putChains_21 ?_
      refine lv_iload hx hb d_Mk_putChains_24 (lv_at hl 0 rfl) ?_
      refine pr_call (va_runS (As := [.int sc, .int (nI nk), .int (nI 1)]) (rest := []) ⟨hx, hb, hml, hown, hts⟩ (c_Mk_chainStart l dC dI cI (sc := sc) (q := nk) (ch := 1) ) ⟨callB_of 3 hts (gd kw_63) rfl rfl rfl (hts _ kw_36) (hts _ kw_61) (by decide +kernel) ⟨Nat.le_of_ble_eq_true rfl, Nat.le_of_ble_eq_true rfl⟩, (hts _ kw_62)⟩ ⟨fun a U g mk q => by obtain ⟨q0, qP, qK⟩ := q; exact ⟨q0, qP, qK.call⟩, fun U hU hW => ⟨rfl, by rw [hU]; exact hP.sub [] rfl, hKN.warm hW⟩⟩ rfl rfl hl.1 rfl (lv_room (Nat.le_of_ble_eq_true rfl)) d_Mk_putChains_26 ⟨Nat.zero_le _, Nat.zero_le _⟩) ?_
      refine lv_istore (lv' := [(5, .int (cs sc nk 1)), (4, .int (nI 1)), (3, .int (ms4 (fun i => f (b + i)))), (0, .ref hm), (1, .ref ha), (2, .int (nI b))]) hx hb d_Mk_putChains_29 hl (by decide) rfl (fun ls hl => ?_)
      refine lv_aload_n hx hb d_Mk_putChains_31 rfl (lv_at hl 4 rfl) ?_
      refine lv_iload_n hx hb d_Mk_putChains_32 rfl (lv_at hl 5 rfl) ?_
      refine lv_iconst (v := (nI 5)) hx hb d_Mk_putChains_33 (by decide) ?_
      refine lv_iadd hx hb d_Mk_putChains_34 ?_
      refine tp (nI_add _ _) ?_
      refine lv_iload hx hb d_Mk_putChains_35 (lv_at hl 1 rfl) ?_
      refine lv_iadd hx hb d_Mk_putChains_37 ?_
      refine tp (y := (nI (b + 6))) (nI_add _ _) ?_
      refine lv_iload hx hb d_Mk_putChains_38 (lv_at hl 0 rfl) ?_
      refine lv_iload hx hb d_Mk_putChains_40 (lv_at hl 1 rfl) ?_
      refine lv_iconst (v := (nI 0)) hx hb d_Mk_putChains_42 (by decide) ?_
      refine lv_iload_n hx hb d_Mk_putChains_43 rfl (lv_at hl 2 rfl) ?_
      refine lv_iload hx hb d_Mk_putChains_44 (lv_at hl 1 rfl) ?_
      refine pr_call (va_runS (As := [.int (ms4 (fun i => f (b + i))), .int (nI 1)]) (rest := [.int (nI 0), .int (nI 1), .int (cs sc nk 1), .int (nI (b + 6)), .ref ha]) ⟨hx, hb, hml, hown, hts⟩ (c_Sg_digit l dC dI cI (mm := ms4 (fun i => f (b + i))) (ch := 1) (hch := (by omega))) ⟨callB_of 2 hts (gd kw_107) rfl rfl rfl (hts _ kw_37) (hts _ kw_105) (by decide +kernel) ⟨Nat.le_of_ble_eq_true rfl, Nat.le_of_ble_eq_true rfl⟩, (hts _ kw_106)⟩ ⟨fun a U g mk q => by obtain ⟨q0, qP, qK⟩ := q; exact ⟨q0, qP, qK.call⟩, fun U hU hW => ⟨rfl, by rw [hU]; exact hP.sub [] rfl, hKN.warm hW⟩⟩ rfl rfl hl.1 rfl (lv_room (Nat.le_of_ble_eq_true rfl)) d_Mk_putChains_46 ⟨Nat.zero_le _, Nat.zero_le _⟩) ?_
      refine pr_call (va_runS (As := [.int (cs sc nk 1), .int (nI 1), .int (nI 0), .int (nI (dgt (ms4 (fun i => f (b + i))) 1))]) (rest := [.int (nI (b + 6)), .ref ha]) ⟨hx, hb, hml, hown, hts⟩ (c_Sg_walk l dC dI cI (x := cs sc nk 1) (ch := 1) (fr := 0) (to := dgt (ms4 (fun i => f (b + i))) 1) (hfr := (by first | omega | exact dgt_le _ _)) (hto := (by first | omega | exact dgt_le _ _))) ⟨callB_of 4 hts (gd kw_71) rfl rfl rfl (hts _ kw_37) (hts _ kw_69) (by decide +kernel) ⟨Nat.le_of_ble_eq_true rfl, Nat.le_of_ble_eq_true rfl⟩, (hts _ kw_70)⟩ ⟨fun a U g mk q => by obtain ⟨q0, qP, qK⟩ := q; exact ⟨q0, qP, qK.call⟩, fun U hU hW => ⟨rfl, by rw [hU]; exact hP.sub [] rfl, hKN.warm hW⟩⟩ rfl rfl hl.1 rfl (lv_room (Nat.le_of_ble_eq_true rfl)) d_Mk_putChains_49 ⟨Nat.zero_le _, Nat.zero_le _⟩) ?_
      refine ar_st (k := b + 6) hx hb hK hP hD hS 1 0 rfl rfl (by omega) (by first | decide | omega) d_Mk_putChains_52 (fun H locs hP hD hS => ?_)
      have hP : va_P (dC, dI) classes [(hm, .inr (1, [.int sc, .ref hn, .int (nI nk)])), (ha, .inl (cI, N, .inl (upd (upd f (b + 5) (al 0 ((dgt (ms4 (fun i => f (b + i))) 0) - 0) 0 (cs sc nk 0))) (b + 6) (al 1 ((dgt (ms4 (fun i => f (b + i))) 1) - 0) 0 (cs sc nk 1)))))] H := hP
      have hD : va_D A [(hm, .inr (1, [.int sc, .ref hn, .int (nI nk)])), (ha, .inl (cI, N, .inl (upd (upd f (b + 5) (al 0 ((dgt (ms4 (fun i => f (b + i))) 0) - 0) 0 (cs sc nk 0))) (b + 6) (al 1 ((dgt (ms4 (fun i => f (b + i))) 1) - 0) 0 (cs sc nk 1)))))] := hD
      refine lv_iinc (k := 1) (v := (nI 2)) (lv' := [(4, .int (nI 2)), (5, .int (cs sc nk 1)), (3, .int (ms4 (fun i => f (b + i)))), (0, .ref hm), (1, .ref ha), (2, .int (nI b))]) hx hb d_Mk_putChains_53 hl rfl (by decide) (by decide) rfl (fun ls hl => ?_)
      refine lv_goto (tgt := 9) hx hb d_Mk_putChains_56 (by decide) ?_
      refine lv_iload hx hb d_Mk_putChains_9 (lv_at hl 0 rfl) ?_
      refine lv_bipush (v := (nI 6)) hx hb d_Mk_putChains_11 (by decide) ?_
      refine nb_ge (tgt := 59) hx hb d_Mk_putChains_13 (by decide) (by decide) (by decide) (fun h_3 => ?_) (fun h_3 => ?_)
      · exact absurd h_3 (by decide)
      · refine lv_aload_n hx hb d_Mk_putChains_16 rfl (lv_at hl 3 rfl) ?_
        refine va_get (D := (dC, dI)) (ci := 1) (v := .int sc) (C := R_Mk) (T := F_Mk) (N := 3) hx hb hts in_Mk hown hK hP 0 rfl rfl 0 (by decide) (hts _ kw_76) (fun _ h9 => h9) rfl d_Mk_putChains_17 ?_
        refine lv_aload_n hx hb d_Mk_putChains_20 rfl (lv_at hl 3 rfl) ?_
        refine va_get (D := (dC, dI)) (ci := 1) (v := .int (nI nk)) (C := R_Mk) (T := F_Mk) (N := 3) hx hb hts in_Mk hown hK hP 0 rfl rfl 2 (by decide) (hts _ kw_78) (fun _ h9 => h9) rfl d_Mk_putChains_21 ?_
        refine lv_iload hx hb d_Mk_putChains_24 (lv_at hl 0 rfl) ?_
        refine pr_call (va_runS (As := [.int sc, .int (nI nk), .int (nI 2)]) (rest := []) ⟨hx, hb, hml, hown, hts⟩ (c_Mk_chainStart l dC dI cI (sc := sc) (q := nk) (ch := 2) ) ⟨callB_of 3 hts (gd kw_63) rfl rfl rfl (hts _ kw_36) (hts _ kw_61) (by decide +kernel) ⟨Nat.le_of_ble_eq_true rfl, Nat.le_of_ble_eq_true rfl⟩, (hts _ kw_62)⟩ ⟨fun a U g mk q => by obtain ⟨q0, qP, qK⟩ := q; exact ⟨q0, qP, qK.call⟩, fun U hU hW => ⟨rfl, by rw [hU]; exact hP.sub [] rfl, hKN.warm hW⟩⟩ rfl rfl hl.1 rfl (lv_room (Nat.le_of_ble_eq_true rfl)) d_Mk_putChains_26 ⟨Nat.zero_le _, Nat.zero_le _⟩) ?_
        refine lv_istore (lv' := [(5, .int (cs sc nk 2)), (4, .int (nI 2)), (3, .int (ms4 (fun i => f (b + i)))), (0, .ref hm), (1, .ref ha), (2, .int (nI b))]) hx hb d_Mk_putChains_29 hl (by decide) rfl (fun ls hl => ?_)
        refine lv_aload_n hx hb d_Mk_putChains_31 rfl (lv_at hl 4 rfl) ?_
        refine lv_iload_n hx hb d_Mk_putChains_32 rfl (lv_at hl 5 rfl) ?_
        refine lv_iconst (v := (nI 5)) hx hb d_Mk_putChains_33 (by decide) ?_
        refine lv_iadd hx hb d_Mk_putChains_34 ?_
        refine tp (nI_add _ _) ?_
        refine lv_iload hx hb d_Mk_putChains_35 (lv_at hl 1 rfl) ?_
        refine lv_iadd hx hb d_Mk_putChains_37 ?_
        refine tp (y := (nI (b + 7))) (nI_add _ _) ?_
        refine lv_iload hx hb d_Mk_putChains_38 (lv_at hl 0 rfl) ?_
        refine lv_iload hx hb d_Mk_putChains_40 (lv_at hl 1 rfl) ?_
        refine lv_iconst (v := (nI 0)) hx hb d_Mk_putChains_42 (by decide) ?_
        refine lv_iload_n hx hb d_Mk_putChains_43 rfl (lv_at hl 2 rfl) ?_
        refine lv_iload hx hb d_Mk_putChains_44 (lv_at hl 1 rfl) ?_
        refine pr_call (va_runS (As := [.int (ms4 (fun i => f (b + i))), .int (nI 2)]) (rest := [.int (nI 0), .int (nI 2), .int (cs sc nk 2), .int (nI (b + 7)), .ref ha]) ⟨hx, hb, hml, hown, hts⟩ (c_Sg_digit l dC dI cI (mm := ms4 (fun i => f (b + i))) (ch := 2) (hch := (by omega))) ⟨callB_of 2 hts (gd kw_107) rfl rfl rfl (hts _ kw_37) (hts _ kw_105) (by decide +kernel) ⟨Nat.le_of_ble_eq_true rfl, Nat.le_of_ble_eq_true rfl⟩, (hts _ kw_106)⟩ ⟨fun a U g mk q => by obtain ⟨q0, qP, qK⟩ := q; exact ⟨q0, qP, qK.call⟩, fun U hU hW => ⟨rfl, by rw [hU]; exact hP.sub [] rfl, hKN.warm hW⟩⟩ rfl rfl hl.1 rfl (lv_room (Nat.le_of_ble_eq_true rfl)) d_Mk_putChains_46 ⟨Nat.zero_le _, Nat.zero_le _⟩) ?_
        refine pr_call (va_runS (As := [.int (cs sc nk 2), .int (nI 2), .int (nI 0), .int (nI (dgt (ms4 (fun i => f (b + i))) 2))]) (rest := [.int (nI (b + 7)), .ref ha]) ⟨hx, hb, hml, hown, hts⟩ (c_Sg_walk l dC dI cI (x := cs sc nk 2) (ch := 2) (fr := 0) (to := dgt (ms4 (fun i => f (b + i))) 2) (hfr := (by first | omega | exact dgt_le _ _)) (hto := (by first | omega | exact dgt_le _ _))) ⟨callB_of 4 hts (gd kw_71) rfl rfl rfl (hts _ kw_37) (hts _ kw_69) (by decide +kernel) ⟨Nat.le_of_ble_eq_true rfl, Nat.le_of_ble_eq_true rfl⟩, (hts _ kw_70)⟩ ⟨fun a U g mk q => by obtain ⟨q0, qP, qK⟩ := q; exact ⟨q0, qP, qK.call⟩, fun U hU hW => ⟨rfl, by rw [hU]; exact hP.sub [] rfl, hKN.warm hW⟩⟩ rfl rfl hl.1 rfl (lv_room (Nat.le_of_ble_eq_true rfl)) d_Mk_putChains_49 ⟨Nat.zero_le _, Nat.zero_le _⟩) ?_
        refine ar_st (k := b + 7) hx hb hK hP hD hS 1 0 rfl rfl (by omega) (by first | decide | omega) d_Mk_putChains_52 (fun H locs hP hD hS => ?_)
        have hP : va_P (dC, dI) classes [(hm, .inr (1, [.int sc, .ref hn, .int (nI nk)])), (ha, .inl (cI, N, .inl (upd (upd (upd f (b + 5) (al 0 ((dgt (ms4 (fun i => f (b + i))) 0) - 0) 0 (cs sc nk 0))) (b + 6) (al 1 ((dgt (ms4 (fun i => f (b + i))) 1) - 0) 0 (cs sc nk 1))) (b + 7) (al 2 ((dgt (ms4 (fun i => f (b + i))) 2) - 0) 0 (cs sc nk 2)))))] H := hP
        have hD : va_D A [(hm, .inr (1, [.int sc, .ref hn, .int (nI nk)])), (ha, .inl (cI, N, .inl (upd (upd (upd f (b + 5) (al 0 ((dgt (ms4 (fun i => f (b + i))) 0) - 0) 0 (cs sc nk 0))) (b + 6) (al 1 ((dgt (ms4 (fun i => f (b + i))) 1) - 0) 0 (cs sc nk 1))) (b + 7) (al 2 ((dgt (ms4 (fun i => f (b + i))) 2) - 0) 0 (cs sc nk 2)))))] := hD
        refine lv_iinc (k := 1) (v := (nI 3)) (lv' := [(4, .int (nI 3)), (5, .int (cs sc nk 2)), (3, .int (ms4 (fun i => f (b + i)))), (0, .ref hm), (1, .ref ha), (2, .int (nI b))]) hx hb d_Mk_putChains_53 hl rfl (by decide) (by decide) rfl (fun ls hl => ?_)
        refine lv_goto (tgt := 9) hx hb d_Mk_putChains_56 (by decide) ?_
        refine lv_iload hx hb d_Mk_putChains_9 (lv_at hl 0 rfl) ?_
        refine lv_bipush (v := (nI 6)) hx hb d_Mk_putChains_11 (by decide) ?_
        refine nb_ge (tgt := 59) hx hb d_Mk_putChains_13 (by decide) (by decide) (by decide) (fun h_4 => ?_) (fun h_4 => ?_)
        · exact absurd h_4 (by decide)
        · refine lv_aload_n hx hb d_Mk_putChains_16 rfl (lv_at hl 3 rfl) ?_
          refine va_get (D := (dC, dI)) (ci := 1) (v := .int sc) (C := R_Mk) (T := F_Mk) (N := 3) hx hb hts in_Mk hown hK hP 0 rfl rfl 0 (by decide) (hts _ kw_76) (fun _ h9 => h9) rfl d_Mk_putChains_17 ?_
          refine lv_aload_n hx hb d_Mk_putChains_20 rfl (lv_at hl 3 rfl) ?_
          refine va_get (D := (dC, dI)) (ci := 1) (v := .int (nI nk)) (C := R_Mk) (T := F_Mk) (N := 3) hx hb hts in_Mk hown hK hP 0 rfl rfl 2 (by decide) (hts _ kw_78) (fun _ h9 => h9) rfl d_Mk_putChains_21 ?_
          refine lv_iload hx hb d_Mk_putChains_24 (lv_at hl 0 rfl) ?_
          refine pr_call (va_runS (As := [.int sc, .int (nI nk), .int (nI 3)]) (rest := []) ⟨hx, hb, hml, hown, hts⟩ (c_Mk_chainStart l dC dI cI (sc := sc) (q := nk) (ch := 3) ) ⟨callB_of 3 hts (gd kw_63) rfl rfl rfl (hts _ kw_36) (hts _ kw_61) (by decide +kernel) ⟨Nat.le_of_ble_eq_true rfl, Nat.le_of_ble_eq_true rfl⟩, (hts _ kw_62)⟩ ⟨fun a U g mk q => by obtain ⟨q0, qP, qK⟩ := q; exact ⟨q0, qP, qK.call⟩, fun U hU hW => ⟨rfl, by rw [hU]; exact hP.sub [] rfl, hKN.warm hW⟩⟩ rfl rfl hl.1 rfl (lv_room (Nat.le_of_ble_eq_true rfl)) d_Mk_putChains_26 ⟨Nat.zero_le _, Nat.zero_le _⟩) ?_
          refine lv_istore (lv' := [(5, .int (cs sc nk 3)), (4, .int (nI 3)), (3, .int (ms4 (fun i => f (b + i)))), (0, .ref hm), (1, .ref ha), (2, .int (nI b))]) hx hb d_Mk_putChains_29 hl (by decide) rfl (fun ls hl => ?_)
          refine lv_aload_n hx hb d_Mk_putChains_31 rfl (lv_at hl 4 rfl) ?_
          refine lv_iload_n hx hb d_Mk_putChains_32 rfl (lv_at hl 5 rfl) ?_
          refine lv_iconst (v := (nI 5)) hx hb d_Mk_putChains_33 (by decide) ?_
          refine lv_iadd hx hb d_Mk_putChains_34 ?_
          refine tp (nI_add _ _) ?_
          refine lv_iload hx hb d_Mk_putChains_35 (lv_at hl 1 rfl) ?_
          refine lv_iadd hx hb d_Mk_putChains_37 ?_
          refine tp (y := (nI (b + 8))) (nI_add _ _) ?_
          refine lv_iload hx hb d_Mk_putChains_38 (lv_at hl 0 rfl) ?_
          refine lv_iload hx hb d_Mk_putChains_40 (lv_at hl 1 rfl) ?_
          refine lv_iconst (v := (nI 0)) hx hb d_Mk_putChains_42 (by decide) ?_
          refine lv_iload_n hx hb d_Mk_putChains_43 rfl (lv_at hl 2 rfl) ?_
          refine lv_iload hx hb d_Mk_putChains_44 (lv_at hl 1 rfl) ?_
          refine pr_call (va_runS (As := [.int (ms4 (fun i => f (b + i))), .int (nI 3)]) (rest := [.int (nI 0), .int (nI 3), .int (cs sc nk 3), .int (nI (b + 8)), .ref ha]) ⟨hx, hb, hml, hown, hts⟩ (c_Sg_digit l dC dI cI (mm := ms4 (fun i => f (b + i))) (ch := 3) (hch := (by omega))) ⟨callB_of 2 hts (gd kw_107) rfl rfl rfl (hts _ kw_37) (hts _ kw_105) (by decide +kernel) ⟨Nat.le_of_ble_eq_true rfl, Nat.le_of_ble_eq_true rfl⟩, (hts _ kw_106)⟩ ⟨fun a U g mk q => by obtain ⟨q0, qP, qK⟩ := q; exact ⟨q0, qP, qK.call⟩, fun U hU hW => ⟨rfl, by rw [hU]; exact hP.sub [] rfl, hKN.warm hW⟩⟩ rfl rfl hl.1 rfl (lv_room (Nat.le_of_ble_eq_true rfl)) d_Mk_putChains_46 ⟨Nat.zero_le _, Nat.zero_le _⟩) ?_
          refine pr_call (va_runS (As := [.int (cs sc nk 3), .int (nI 3), .int (nI 0), .int (nI (dgt (ms4 (fun i => f (b + i))) 3))]) (rest := [.int (nI (b + 8)), .ref ha]) ⟨hx, hb, hml, hown, hts⟩ (c_Sg_walk l dC dI cI (x := cs sc nk 3) (ch := 3) (fr := 0) (to := dgt (ms4 (fun i => f (b + i))) 3) (hfr := (by first | omega | exact dgt_le _ _)) (hto := (by first | omega | exact dgt_le _ _))) ⟨callB_of 4 hts (gd kw_71) rfl rfl rfl (hts _ kw_37) (hts _ kw_69) (by decide +kernel) ⟨Nat.le_of_ble_eq_true rfl, Nat.le_of_ble_eq_true rfl⟩, (hts _ kw_70)⟩ ⟨fun a U g mk q => by obtain ⟨q0, qP, qK⟩ := q; exact ⟨q0, qP, qK.call⟩, fun U hU hW => ⟨rfl, by rw [hU]; exact hP.sub [] rfl, hKN.warm hW⟩⟩ rfl rfl hl.1 rfl (lv_room (Nat.le_of_ble_eq_true rfl)) d_Mk_putChains_49 ⟨Nat.zero_le _, Nat.zero_le _⟩) ?_
          refine ar_st (k := b + 8) hx hb hK hP hD hS 1 0 rfl rfl (by omega) (by first | decide | omega) d_Mk_putChains_52 (fun H locs hP hD hS => ?_)
          have hP : va_P (dC, dI) classes [(hm, .inr (1, [.int sc, .ref hn, .int (nI nk)])), (ha, .inl (cI, N, .inl (upd (upd (upd (upd f (b + 5) (al 0 ((dgt (ms4 (fun i => f (b + i))) 0) - 0) 0 (cs sc nk 0))) (b + 6) (al 1 ((dgt (ms4 (fun i => f (b + i))) 1) - 0) 0 (cs sc nk 1))) (b + 7) (al 2 ((dgt (ms4 (fun i => f (b + i))) 2) - 0) 0 (cs sc nk 2))) (b + 8) (al 3 ((dgt (ms4 (fun i => f (b + i))) 3) - 0) 0 (cs sc nk 3)))))] H := hP
          have hD : va_D A [(hm, .inr (1, [.int sc, .ref hn, .int (nI nk)])), (ha, .inl (cI, N, .inl (upd (upd (upd (upd f (b + 5) (al 0 ((dgt (ms4 (fun i => f (b + i))) 0) - 0) 0 (cs sc nk 0))) (b + 6) (al 1 ((dgt (ms4 (fun i => f (b + i))) 1) - 0) 0 (cs sc nk 1))) (b + 7) (al 2 ((dgt (ms4 (fun i => f (b + i))) 2) - 0) 0 (cs sc nk 2))) (b + 8) (al 3 ((dgt (ms4 (fun i => f (b + i))) 3) - 0) 0 (cs sc nk 3)))))] := hD
          refine lv_iinc (k := 1) (v := (nI 4)) (lv' := [(4, .int (nI 4)), (5, .int (cs sc nk 3)), (3, .int (ms4 (fun i => f (b + i)))), (0, .ref hm), (1, .ref ha), (2, .int (nI b))]) hx hb d_Mk_putChains_53 hl rfl (by decide) (by decide) rfl (fun ls hl => ?_)
          refine lv_goto (tgt := 9) hx hb d_Mk_putChains_56 (by decide) ?_
          refine lv_iload hx hb d_Mk_putChains_9 (lv_at hl 0 rfl) ?_
          refine lv_bipush (v := (nI 6)) hx hb d_Mk_putChains_11 (by decide) ?_
          refine nb_ge (tgt := 59) hx hb d_Mk_putChains_13 (by decide) (by decide) (by decide) (fun h_5 => ?_) (fun h_5 => ?_)
          · exact absurd h_5 (by decide)
          · refine lv_aload_n hx hb d_Mk_putChains_16 rfl (lv_at hl 3 rfl) ?_
            refine va_get (D := (dC, dI)) (ci := 1) (v := .int sc) (C := R_Mk) (T := F_Mk) (N := 3) hx hb hts in_Mk hown hK hP 0 rfl rfl 0 (by decide) (hts _ kw_76) (fun _ h9 => h9) rfl d_Mk_putChains_17 ?_
            refine lv_aload_n hx hb d_Mk_putChains_20 rfl (lv_at hl 3 rfl) ?_
            refine va_get (D := (dC, dI)) (ci := 1) (v := .int (nI nk)) (C := R_Mk) (T := F_Mk) (N := 3) hx hb hts in_Mk hown hK hP 0 rfl rfl 2 (by decide) (hts _ kw_78) (fun _ h9 => h9) rfl d_Mk_putChains_21 ?_
            refine lv_iload hx hb d_Mk_putChains_24 (lv_at hl 0 rfl) ?_
            refine pr_call (va_runS (As := [.int sc, .int (nI nk), .int (nI 4)]) (rest := []) ⟨hx, hb, hml, hown, hts⟩ (c_Mk_chainStart l dC dI cI (sc := sc) (q := nk) (ch := 4) ) ⟨callB_of 3 hts (gd kw_63) rfl rfl rfl (hts _ kw_36) (hts _ kw_61) (by decide +kernel) ⟨Nat.le_of_ble_eq_true rfl, Nat.le_of_ble_eq_true rfl⟩, (hts _ kw_62)⟩ ⟨fun a U g mk q => by obtain ⟨q0, qP, qK⟩ := q; exact ⟨q0, qP, qK.call⟩, fun U hU hW => ⟨rfl, by rw [hU]; exact hP.sub [] rfl, hKN.warm hW⟩⟩ rfl rfl hl.1 rfl (lv_room (Nat.le_of_ble_eq_true rfl)) d_Mk_putChains_26 ⟨Nat.zero_le _, Nat.zero_le _⟩) ?_
            refine lv_istore (lv' := [(5, .int (cs sc nk 4)), (4, .int (nI 4)), (3, .int (ms4 (fun i => f (b + i)))), (0, .ref hm), (1, .ref ha), (2, .int (nI b))]) hx hb d_Mk_putChains_29 hl (by decide) rfl (fun ls hl => ?_)
            refine lv_aload_n hx hb d_Mk_putChains_31 rfl (lv_at hl 4 rfl) ?_
            refine lv_iload_n hx hb d_Mk_putChains_32 rfl (lv_at hl 5 rfl) ?_
            refine lv_iconst (v := (nI 5)) hx hb d_Mk_putChains_33 (by decide) ?_
            refine lv_iadd hx hb d_Mk_putChains_34 ?_
            refine tp (nI_add _ _) ?_
            refine lv_iload hx hb d_Mk_putChains_35 (lv_at hl 1 rfl) ?_
            refine lv_iadd hx hb d_Mk_putChains_37 ?_
            refine tp (y := (nI (b + 9))) (nI_add _ _) ?_
            refine lv_iload hx hb d_Mk_putChains_38 (lv_at hl 0 rfl) ?_
            refine lv_iload hx hb d_Mk_putChains_40 (lv_at hl 1 rfl) ?_
            refine lv_iconst (v := (nI 0)) hx hb d_Mk_putChains_42 (by decide) ?_
            refine lv_iload_n hx hb d_Mk_putChains_43 rfl (lv_at hl 2 rfl) ?_
            refine lv_iload hx hb d_Mk_putChains_44 (lv_at hl 1 rfl) ?_
            refine pr_call (va_runS (As := [.int (ms4 (fun i => f (b + i))), .int (nI 4)]) (rest := [.int (nI 0), .int (nI 4), .int (cs sc nk 4), .int (nI (b + 9)), .ref ha]) ⟨hx, hb, hml, hown, hts⟩ (c_Sg_digit l dC dI cI (mm := ms4 (fun i => f (b + i))) (ch := 4) (hch := (by omega))) ⟨callB_of 2 hts (gd kw_107) rfl rfl rfl (hts _ kw_37) (hts _ kw_105) (by decide +kernel) ⟨Nat.le_of_ble_eq_true rfl, Nat.le_of_ble_eq_true rfl⟩, (hts _ kw_106)⟩ ⟨fun a U g mk q => by obtain ⟨q0, qP, qK⟩ := q; exact ⟨q0, qP, qK.call⟩, fun U hU hW => ⟨rfl, by rw [hU]; exact hP.sub [] rfl, hKN.warm hW⟩⟩ rfl rfl hl.1 rfl (lv_room (Nat.le_of_ble_eq_true rfl)) d_Mk_putChains_46 ⟨Nat.zero_le _, Nat.zero_le _⟩) ?_
            refine pr_call (va_runS (As := [.int (cs sc nk 4), .int (nI 4), .int (nI 0), .int (nI (dgt (ms4 (fun i => f (b + i))) 4))]) (rest := [.int (nI (b + 9)), .ref ha]) ⟨hx, hb, hml, hown, hts⟩ (c_Sg_walk l dC dI cI (x := cs sc nk 4) (ch := 4) (fr := 0) (to := dgt (ms4 (fun i => f (b + i))) 4) (hfr := (by first | omega | exact dgt_le _ _)) (hto := (by first | omega | exact dgt_le _ _))) ⟨callB_of 4 hts (gd kw_71) rfl rfl rfl (hts _ kw_37) (hts _ kw_69) (by decide +kernel) ⟨Nat.le_of_ble_eq_true rfl, Nat.le_of_ble_eq_true rfl⟩, (hts _ kw_70)⟩ ⟨fun a U g mk q => by obtain ⟨q0, qP, qK⟩ := q; exact ⟨q0, qP, qK.call⟩, fun U hU hW => ⟨rfl, by rw [hU]; exact hP.sub [] rfl, hKN.warm hW⟩⟩ rfl rfl hl.1 rfl (lv_room (Nat.le_of_ble_eq_true rfl)) d_Mk_putChains_49 ⟨Nat.zero_le _, Nat.zero_le _⟩) ?_
            refine ar_st (k := b + 9) hx hb hK hP hD hS 1 0 rfl rfl (by omega) (by first | decide | omega) d_Mk_putChains_52 (fun H locs hP hD hS => ?_)
            have hP : va_P (dC, dI) classes [(hm, .inr (1, [.int sc, .ref hn, .int (nI nk)])), (ha, .inl (cI, N, .inl (upd (upd (upd (upd (upd f (b + 5) (al 0 ((dgt (ms4 (fun i => f (b + i))) 0) - 0) 0 (cs sc nk 0))) (b + 6) (al 1 ((dgt (ms4 (fun i => f (b + i))) 1) - 0) 0 (cs sc nk 1))) (b + 7) (al 2 ((dgt (ms4 (fun i => f (b + i))) 2) - 0) 0 (cs sc nk 2))) (b + 8) (al 3 ((dgt (ms4 (fun i => f (b + i))) 3) - 0) 0 (cs sc nk 3))) (b + 9) (al 4 ((dgt (ms4 (fun i => f (b + i))) 4) - 0) 0 (cs sc nk 4)))))] H := hP
            have hD : va_D A [(hm, .inr (1, [.int sc, .ref hn, .int (nI nk)])), (ha, .inl (cI, N, .inl (upd (upd (upd (upd (upd f (b + 5) (al 0 ((dgt (ms4 (fun i => f (b + i))) 0) - 0) 0 (cs sc nk 0))) (b + 6) (al 1 ((dgt (ms4 (fun i => f (b + i))) 1) - 0) 0 (cs sc nk 1))) (b + 7) (al 2 ((dgt (ms4 (fun i => f (b + i))) 2) - 0) 0 (cs sc nk 2))) (b + 8) (al 3 ((dgt (ms4 (fun i => f (b + i))) 3) - 0) 0 (cs sc nk 3))) (b + 9) (al 4 ((dgt (ms4 (fun i => f (b + i))) 4) - 0) 0 (cs sc nk 4)))))] := hD
            refine lv_iinc (k := 1) (v := (nI 5)) (lv' := [(4, .int (nI 5)), (5, .int (cs sc nk 4)), (3, .int (ms4 (fun i => f (b + i)))), (0, .ref hm), (1, .ref ha), (2, .int (nI b))]) hx hb d_Mk_putChains_53 hl rfl (by decide) (by decide) rfl (fun ls hl => ?_)
            refine lv_goto (tgt := 9) hx hb d_Mk_putChains_56 (by decide) ?_
            refine lv_iload hx hb d_Mk_putChains_9 (lv_at hl 0 rfl) ?_
            refine lv_bipush (v := (nI 6)) hx hb d_Mk_putChains_11 (by decide) ?_
            refine nb_ge (tgt := 59) hx hb d_Mk_putChains_13 (by decide) (by decide) (by decide) (fun h_6 => ?_) (fun h_6 => ?_)
            · exact absurd h_6 (by decide)
            · refine lv_aload_n hx hb d_Mk_putChains_16 rfl (lv_at hl 3 rfl) ?_
              refine va_get (D := (dC, dI)) (ci := 1) (v := .int sc) (C := R_Mk) (T := F_Mk) (N := 3) hx hb hts in_Mk hown hK hP 0 rfl rfl 0 (by decide) (hts _ kw_76) (fun _ h9 => h9) rfl d_Mk_putChains_17 ?_
              refine lv_aload_n hx hb d_Mk_putChains_20 rfl (lv_at hl 3 rfl) ?_
              refine va_get (D := (dC, dI)) (ci := 1) (v := .int (nI nk)) (C := R_Mk) (T := F_Mk) (N := 3) hx hb hts in_Mk hown hK hP 0 rfl rfl 2 (by decide) (hts _ kw_78) (fun _ h9 => h9) rfl d_Mk_putChains_21 ?_
              refine lv_iload hx hb d_Mk_putChains_24 (lv_at hl 0 rfl) ?_
              refine pr_call (va_runS (As := [.int sc, .int (nI nk), .int (nI 5)]) (rest := []) ⟨hx, hb, hml, hown, hts⟩ (c_Mk_chainStart l dC dI cI (sc := sc) (q := nk) (ch := 5) ) ⟨callB_of 3 hts (gd kw_63) rfl rfl rfl (hts _ kw_36) (hts _ kw_61) (by decide +kernel) ⟨Nat.le_of_ble_eq_true rfl, Nat.le_of_ble_eq_true rfl⟩, (hts _ kw_62)⟩ ⟨fun a U g mk q => by obtain ⟨q0, qP, qK⟩ := q; exact ⟨q0, qP, qK.call⟩, fun U hU hW => ⟨rfl, by rw [hU]; exact hP.sub [] rfl, hKN.warm hW⟩⟩ rfl rfl hl.1 rfl (lv_room (Nat.le_of_ble_eq_true rfl)) d_Mk_putChains_26 ⟨Nat.zero_le _, Nat.zero_le _⟩) ?_
              refine lv_istore (lv' := [(5, .int (cs sc nk 5)), (4, .int (nI 5)), (3, .int (ms4 (fun i => f (b + i)))), (0, .ref hm), (1, .ref ha), (2, .int (nI b))]) hx hb d_Mk_putChains_29 hl (by decide) rfl (fun ls hl => ?_)
              refine lv_aload_n hx hb d_Mk_putChains_31 rfl (lv_at hl 4 rfl) ?_
              refine lv_iload_n hx hb d_Mk_putChains_32 rfl (lv_at hl 5 rfl) ?_
              refine lv_iconst (v := (nI 5)) hx hb d_Mk_putChains_33 (by decide) ?_
              refine lv_iadd hx hb d_Mk_putChains_34 ?_
              refine tp (nI_add _ _) ?_
              refine lv_iload hx hb d_Mk_putChains_35 (lv_at hl 1 rfl) ?_
              refine lv_iadd hx hb d_Mk_putChains_37 ?_
              refine tp (y := (nI (b + 10))) (nI_add _ _) ?_
              refine lv_iload hx hb d_Mk_putChains_38 (lv_at hl 0 rfl) ?_
              refine lv_iload hx hb d_Mk_putChains_40 (lv_at hl 1 rfl) ?_
              refine lv_iconst (v := (nI 0)) hx hb d_Mk_putChains_42 (by decide) ?_
              refine lv_iload_n hx hb d_Mk_putChains_43 rfl (lv_at hl 2 rfl) ?_
              refine lv_iload hx hb d_Mk_putChains_44 (lv_at hl 1 rfl) ?_
              refine pr_call (va_runS (As := [.int (ms4 (fun i => f (b + i))), .int (nI 5)]) (rest := [.int (nI 0), .int (nI 5), .int (cs sc nk 5), .int (nI (b + 10)), .ref ha]) ⟨hx, hb, hml, hown, hts⟩ (c_Sg_digit l dC dI cI (mm := ms4 (fun i => f (b + i))) (ch := 5) (hch := (by omega))) ⟨callB_of 2 hts (gd kw_107) rfl rfl rfl (hts _ kw_37) (hts _ kw_105) (by decide +kernel) ⟨Nat.le_of_ble_eq_true rfl, Nat.le_of_ble_eq_true rfl⟩, (hts _ kw_106)⟩ ⟨fun a U g mk q => by obtain ⟨q0, qP, qK⟩ := q; exact ⟨q0, qP, qK.call⟩, fun U hU hW => ⟨rfl, by rw [hU]; exact hP.sub [] rfl, hKN.warm hW⟩⟩ rfl rfl hl.1 rfl (lv_room (Nat.le_of_ble_eq_true rfl)) d_Mk_putChains_46 ⟨Nat.zero_le _, Nat.zero_le _⟩) ?_
              refine pr_call (va_runS (As := [.int (cs sc nk 5), .int (nI 5), .int (nI 0), .int (nI (dgt (ms4 (fun i => f (b + i))) 5))]) (rest := [.int (nI (b + 10)), .ref ha]) ⟨hx, hb, hml, hown, hts⟩ (c_Sg_walk l dC dI cI (x := cs sc nk 5) (ch := 5) (fr := 0) (to := dgt (ms4 (fun i => f (b + i))) 5) (hfr := (by first | omega | exact dgt_le _ _)) (hto := (by first | omega | exact dgt_le _ _))) ⟨callB_of 4 hts (gd kw_71) rfl rfl rfl (hts _ kw_37) (hts _ kw_69) (by decide +kernel) ⟨Nat.le_of_ble_eq_true rfl, Nat.le_of_ble_eq_true rfl⟩, (hts _ kw_70)⟩ ⟨fun a U g mk q => by obtain ⟨q0, qP, qK⟩ := q; exact ⟨q0, qP, qK.call⟩, fun U hU hW => ⟨rfl, by rw [hU]; exact hP.sub [] rfl, hKN.warm hW⟩⟩ rfl rfl hl.1 rfl (lv_room (Nat.le_of_ble_eq_true rfl)) d_Mk_putChains_49 ⟨Nat.zero_le _, Nat.zero_le _⟩) ?_
              refine ar_st (k := b + 10) hx hb hK hP hD hS 1 0 rfl rfl (by omega) (by first | decide | omega) d_Mk_putChains_52 (fun H locs hP hD hS => ?_)
              have hP : va_P (dC, dI) classes [(hm, .inr (1, [.int sc, .ref hn, .int (nI nk)])), (ha, .inl (cI, N, .inl (upd (upd (upd (upd (upd (upd f (b + 5) (al 0 ((dgt (ms4 (fun i => f (b + i))) 0) - 0) 0 (cs sc nk 0))) (b + 6) (al 1 ((dgt (ms4 (fun i => f (b + i))) 1) - 0) 0 (cs sc nk 1))) (b + 7) (al 2 ((dgt (ms4 (fun i => f (b + i))) 2) - 0) 0 (cs sc nk 2))) (b + 8) (al 3 ((dgt (ms4 (fun i => f (b + i))) 3) - 0) 0 (cs sc nk 3))) (b + 9) (al 4 ((dgt (ms4 (fun i => f (b + i))) 4) - 0) 0 (cs sc nk 4))) (b + 10) (al 5 ((dgt (ms4 (fun i => f (b + i))) 5) - 0) 0 (cs sc nk 5)))))] H := hP
              have hD : va_D A [(hm, .inr (1, [.int sc, .ref hn, .int (nI nk)])), (ha, .inl (cI, N, .inl (upd (upd (upd (upd (upd (upd f (b + 5) (al 0 ((dgt (ms4 (fun i => f (b + i))) 0) - 0) 0 (cs sc nk 0))) (b + 6) (al 1 ((dgt (ms4 (fun i => f (b + i))) 1) - 0) 0 (cs sc nk 1))) (b + 7) (al 2 ((dgt (ms4 (fun i => f (b + i))) 2) - 0) 0 (cs sc nk 2))) (b + 8) (al 3 ((dgt (ms4 (fun i => f (b + i))) 3) - 0) 0 (cs sc nk 3))) (b + 9) (al 4 ((dgt (ms4 (fun i => f (b + i))) 4) - 0) 0 (cs sc nk 4))) (b + 10) (al 5 ((dgt (ms4 (fun i => f (b + i))) 5) - 0) 0 (cs sc nk 5)))))] := hD
              refine lv_iinc (k := 1) (v := (nI 6)) (lv' := [(4, .int (nI 6)), (5, .int (cs sc nk 5)), (3, .int (ms4 (fun i => f (b + i)))), (0, .ref hm), (1, .ref ha), (2, .int (nI b))]) hx hb d_Mk_putChains_53 hl rfl (by decide) (by decide) rfl (fun ls hl => ?_)
              refine lv_goto (tgt := 9) hx hb d_Mk_putChains_56 (by decide) ?_
              refine lv_iload hx hb d_Mk_putChains_9 (lv_at hl 0 rfl) ?_
              refine lv_bipush (v := (nI 6)) hx hb d_Mk_putChains_11 (by decide) ?_
              refine nb_ge (tgt := 59) hx hb d_Mk_putChains_13 (by decide) (by decide) (by decide) (fun h_7 => ?_) (fun h_7 => ?_)
              · exact W.vret hx hb hr (fun t ht hW => ⟨⟨(upd (upd (upd (upd (upd (upd f (b + 5) (al 0 ((dgt (ms4 (fun i => f (b + i))) 0) - 0) 0 (cs sc nk 0))) (b + 6) (al 1 ((dgt (ms4 (fun i => f (b + i))) 1) - 0) 0 (cs sc nk 1))) (b + 7) (al 2 ((dgt (ms4 (fun i => f (b + i))) 2) - 0) 0 (cs sc nk 2))) (b + 8) (al 3 ((dgt (ms4 (fun i => f (b + i))) 3) - 0) 0 (cs sc nk 3))) (b + 9) (al 4 ((dgt (ms4 (fun i => f (b + i))) 4) - 0) 0 (cs sc nk 4))) (b + 10) (al 5 ((dgt (ms4 (fun i => f (b + i))) 5) - 0) 0 (cs sc nk 5))), rfl, (by first | rfl | (simp only []; done) | (simp only []; rfl) | (simp []; done)), by rw [ht]; exact hP, hD⟩, hS.F ht⟩) hS.2.2 d_Mk_putChains_59
              · exact absurd h_7 (by decide)
set_option maxHeartbeats 4000000 in
set_option maxRecDepth 100000 in
theorem c_Mk_putPath (l : Launch) (dC : Nat → ClassId) (dI : Nat → Nat → Nat) (cI : ClassId) (hm : Nat) (ha : Nat) (b : Nat) (sc : Int32) (hn : Nat) (nk : Nat) (nd : Nat → Int32) (N : Nat) (f : Nat → Int32) (hN : N < 2 ^ 31) (hbN : b + 17 ≤ N) (hnk : nk < 8) (sz : Nat) : Met l y_Mk_putPath w_Mk_putPath ({ frames := 0, cells := 0, slots := 0, locals := 0 }) (va_Pc [.ref hm, .ref ha, .int (nI b)] (fun U => U.heap.size = sz ∧ va_P (dC, dI) classes [(hm, .inr (1, [.int sc, .ref hn, .int (nI nk)])), (hn, .inl (cI, 16, .inl nd)), (ha, .inl (cI, N, .inl f))] U.heap ∧ KN dC dI cI U ∧ va_D (fun _ => True) [(hm, .inr (1, [.int sc, .ref hn, .int (nI nk)])), (hn, .inl (cI, 16, .inl nd)), (ha, .inl (cI, N, .inl f))])) (va_Qv (fun u : (Nat → Int32) => putPa nd nk b f = u) (fun (u : (Nat → Int32)) t => va_P (dC, dI) classes [(hm, .inr (1, [.int sc, .ref hn, .int (nI nk)])), (hn, .inl (cI, 16, .inl nd)), (ha, .inl (cI, N, .inl u))] t.heap ∧ va_D (va_A [(hm, .inr (1, [.int sc, .ref hn, .int (nI nk)])), (hn, .inl (cI, 16, .inl nd)), (ha, .inl (cI, N, .inl f))] sz) [(hm, .inr (1, [.int sc, .ref hn, .int (nI nk)])), (hn, .inl (cI, 16, .inl nd)), (ha, .inl (cI, N, .inl u))]) (va_A [(hm, .inr (1, [.int sc, .ref hn, .int (nI nk)])), (hn, .inl (cI, 16, .inl nd)), (ha, .inl (cI, N, .inl f))] sz)) 0 0 (va_A [(hm, .inr (1, [.int sc, .ref hn, .int (nI nk)])), (hn, .inl (cI, 16, .inl nd)), (ha, .inl (cI, N, .inl f))] sz) := by
  refine Met.ofW (cc := b_Mk_putPath) (maxL := 5) (ret := none) (by decide) rfl ?_
  intro p e s m args below meth c s₁ B hml hv
  obtain ⟨rfl, hsz, hP, hKN, hD0⟩ := hv
  have hK := hKN.1
  have hx := B.exec
  have hb := B.bytes
  have hr := B.returns
  have hts := fun (w : Cond) (h : w ∈ gt) => atoms_spec (ws := w_Mk_putPath) B.pre w (List.mem_cons_of_mem _ h)
  have hown : s.vm.findClass R_Mk = some m.cls := findClass_of_methodNamed B.named
  have hlocks := B.notSynchronized
  subst hsz
  have hD := hD0.self (sz := s.heap.size)
  generalize hAe : va_A [(hm, .inr (1, [.int sc, .ref hn, .int (nI nk)])), (hn, .inl (cI, 16, .inl nd)), (ha, .inl (cI, N, .inl f))] s.heap.size = A at hD ⊢
  have hA : ∀ q : Nat, s.heap.size ≤ q → A q := fun q h => by rw [← hAe]; exact Or.inr h
  have hS : va_S A s.heap s.heap [] := va_S.rf
  have hP : va_P (dC, dI) classes [(hm, .inr (1, [.int sc, .ref hn, .int (nI nk)])), (hn, .inl (cI, 16, .inl nd)), (ha, .inl (cI, N, .inl f))] s.heap := hP
  clear hAe hD0
  have hl := lv_entry ([.ref hm, .ref ha, .int (nI b)]) (n := 5) (Nat.le_of_ble_eq_true rfl)
  rw [lg_entry_eq]
  generalize (lg_sl ([.ref hm, .ref ha, .int (nI b)]) ++ List.replicate (5 - (lg_sl ([.ref hm, .ref ha, .int (nI b)])).length) Slot.unset).toArray = ls at hl ⊢
  have hl : lv_has ls 5 [(0, .ref hm), (1, .ref ha), (2, .int (nI b))] := hl
  refine lv_bipush (v := (nI 8)) hx hb d_Mk_putPath_0 (by decide) ?_
  refine lv_aload_n hx hb d_Mk_putPath_2 rfl (lv_at hl 0 rfl) ?_
  refine va_get (D := (dC, dI)) (ci := 1) (v := .int (nI nk)) (C := R_Mk) (T := F_Mk) (N := 3) hx hb hts in_Mk hown hK hP 0 rfl rfl 2 (by decide) (hts _ kw_78) (fun _ h9 => h9) rfl d_Mk_putPath_3 ?_
  refine lv_iadd hx hb d_Mk_putPath_6 ?_
  refine tp (nI_add _ _) ?_
  refine lv_istore_n (lv' := [(3, .int (nI (8 + nk))), (0, .ref hm), (1, .ref ha), (2, .int (nI b))]) hx hb d_Mk_putPath_7 rfl hl (by decide) rfl (fun ls hl => ?_)
  refine lv_iconst (v := (nI 0)) hx hb d_Mk_putPath_8 (by decide) ?_
  refine lv_istore (lv' := [(4, .int (nI 0)), (3, .int (nI (8 + nk))), (0, .ref hm), (1, .ref ha), (2, .int (nI b))]) hx hb d_Mk_putPath_9 hl (by decide) rfl (fun ls hl => ?_)
  refine lv_iload hx hb d_Mk_putPath_11 (lv_at hl 0 rfl) ?_
  refine lv_iconst (v := (nI 3)) hx hb d_Mk_putPath_13 (by decide) ?_
  refine nb_ge (tgt := 44) hx hb d_Mk_putPath_14 (by decide) (by decide) (by decide) (fun h_1 => ?_) (fun h_1 => ?_)
  · exact absurd h_1 (by decide)
  · refine lv_aload_n hx hb d_Mk_putPath_17 rfl (lv_at hl 3 rfl) ?_
    refine lv_iload_n hx hb d_Mk_putPath_18 rfl (lv_at hl 4 rfl) ?_
    refine lv_bipush (v := (nI 11)) hx hb d_Mk_putPath_19 (by decide) ?_
    refine lv_iadd hx hb d_Mk_putPath_21 ?_
    refine tp (nI_add _ _) ?_
    refine lv_iload hx hb d_Mk_putPath_22 (lv_at hl 0 rfl) ?_
    refine lv_iadd hx hb d_Mk_putPath_24 ?_
    refine tp (y := (nI (b + 11))) (nI_add _ _) ?_
    refine lv_aload_n hx hb d_Mk_putPath_25 rfl (lv_at hl 2 rfl) ?_
    refine va_get (D := (dC, dI)) (ci := 1) (v := .ref hn) (C := R_Mk) (T := F_Mk) (N := 3) hx hb hts in_Mk hown hK hP 0 rfl rfl 1 (by decide) (hts _ kw_77) (fun _ h9 => h9) rfl d_Mk_putPath_26 ?_
    refine lv_iload_n hx hb d_Mk_putPath_29 rfl (lv_at hl 1 rfl) ?_
    refine lv_iconst (v := (nI 1)) hx hb d_Mk_putPath_30 (by decide) ?_
    refine lv_ixor hx hb d_Mk_putPath_31 ?_
    refine tp (sib_eq (n := 8 + nk) (by omega)) ?_
    refine ar_ld (k := sib (8 + nk)) hx hb hK hP 1 0 rfl rfl (by exact sib_lt (by omega)) (by first | decide | omega) d_Mk_putPath_32 ?_
    refine ar_st (k := b + 11) hx hb hK hP hD hS 2 0 rfl rfl (by omega) (by first | decide | omega) d_Mk_putPath_33 (fun H locs hP hD hS => ?_)
    have hP : va_P (dC, dI) classes [(hm, .inr (1, [.int sc, .ref hn, .int (nI nk)])), (hn, .inl (cI, 16, .inl nd)), (ha, .inl (cI, N, .inl (upd f (b + 11) (nd (sib (8 + nk))))))] H := hP
    have hD : va_D A [(hm, .inr (1, [.int sc, .ref hn, .int (nI nk)])), (hn, .inl (cI, 16, .inl nd)), (ha, .inl (cI, N, .inl (upd f (b + 11) (nd (sib (8 + nk))))))] := hD
    refine lv_iload_n hx hb d_Mk_putPath_34 rfl (lv_at hl 1 rfl) ?_
    refine lv_iconst (v := (nI 2)) hx hb d_Mk_putPath_35 (by decide) ?_
    refine lv_idiv hx hb d_Mk_putPath_36 (by decide) ?_
    refine tp (pk_div (by omega) (by decide) (by decide)) ?_
    refine lv_istore_n (lv' := [(3, .int (nI ((8 + nk) / 2))), (4, .int (nI 0)), (0, .ref hm), (1, .ref ha), (2, .int (nI b))]) hx hb d_Mk_putPath_37 rfl hl (by decide) rfl (fun ls hl => ?_)
    refine lv_iinc (k := 1) (v := (nI 1)) (lv' := [(4, .int (nI 1)), (3, .int (nI ((8 + nk) / 2))), (0, .ref hm), (1, .ref ha), (2, .int (nI b))]) hx hb d_Mk_putPath_38 hl rfl (by decide) (by decide) rfl (fun ls hl => ?_)
    refine lv_goto (tgt := 11) hx hb d_Mk_putPath_41 (by decide) ?_
    refine lv_iload hx hb d_Mk_putPath_11 (lv_at hl 0 rfl) ?_
    refine lv_iconst (v := (nI 3)) hx hb d_Mk_putPath_13 (by decide) ?_
    refine nb_ge (tgt := 44) hx hb d_Mk_putPath_14 (by decide) (by decide) (by decide) (fun h_2 => ?_) (fun h_2 => ?_)
    · exact absurd h_2 (by decide)
    · refine lv_aload_n hx hb d_Mk_putPath_17 rfl (lv_at hl 3 rfl) ?_
      refine lv_iload_n hx hb d_Mk_putPath_18 rfl (lv_at hl 4 rfl) ?_
      refine lv_bipush (v := (nI 11)) hx hb d_Mk_putPath_19 (by decide) ?_
      refine lv_iadd hx hb d_Mk_putPath_21 ?_
      refine tp (nI_add _ _) ?_
      refine lv_iload hx hb d_Mk_putPath_22 (lv_at hl 0 rfl) ?_
      refine lv_iadd hx hb d_Mk_putPath_24 ?_
      refine tp (y := (nI (b + 12))) (nI_add _ _) ?_
      refine lv_aload_n hx hb d_Mk_putPath_25 rfl (lv_at hl 2 rfl) ?_
      refine va_get (D := (dC, dI)) (ci := 1) (v := .ref hn) (C := R_Mk) (T := F_Mk) (N := 3) hx hb hts in_Mk hown hK hP 0 rfl rfl 1 (by decide) (hts _ kw_77) (fun _ h9 => h9) rfl d_Mk_putPath_26 ?_
      refine lv_iload_n hx hb d_Mk_putPath_29 rfl (lv_at hl 1 rfl) ?_
      refine lv_iconst (v := (nI 1)) hx hb d_Mk_putPath_30 (by decide) ?_
      refine lv_ixor hx hb d_Mk_putPath_31 ?_
      refine tp (sib_eq (n := (8 + nk) / 2) (by omega)) ?_
      refine ar_ld (k := sib ((8 + nk) / 2)) hx hb hK hP 1 0 rfl rfl (by exact sib_lt (by omega)) (by first | decide | omega) d_Mk_putPath_32 ?_
      refine ar_st (k := b + 12) hx hb hK hP hD hS 2 0 rfl rfl (by omega) (by first | decide | omega) d_Mk_putPath_33 (fun H locs hP hD hS => ?_)
      have hP : va_P (dC, dI) classes [(hm, .inr (1, [.int sc, .ref hn, .int (nI nk)])), (hn, .inl (cI, 16, .inl nd)), (ha, .inl (cI, N, .inl (upd (upd f (b + 11) (nd (sib (8 + nk)))) (b + 12) (nd (sib ((8 + nk) / 2))))))] H := hP
      have hD : va_D A [(hm, .inr (1, [.int sc, .ref hn, .int (nI nk)])), (hn, .inl (cI, 16, .inl nd)), (ha, .inl (cI, N, .inl (upd (upd f (b + 11) (nd (sib (8 + nk)))) (b + 12) (nd (sib ((8 + nk) / 2))))))] := hD
      refine lv_iload_n hx hb d_Mk_putPath_34 rfl (lv_at hl 1 rfl) ?_
      refine lv_iconst (v := (nI 2)) hx hb d_Mk_putPath_35 (by decide) ?_
      refine lv_idiv hx hb d_Mk_putPath_36 (by decide) ?_
      refine tp (pk_div (by omega) (by decide) (by decide)) ?_
      refine lv_istore_n (lv' := [(3, .int (nI (((8 + nk) / 2) / 2))), (4, .int (nI 1)), (0, .ref hm), (1, .ref ha), (2, .int (nI b))]) hx hb d_Mk_putPath_37 rfl hl (by decide) rfl (fun ls hl => ?_)
      refine lv_iinc (k := 1) (v := (nI 2)) (lv' := [(4, .int (nI 2)), (3, .int (nI (((8 + nk) / 2) / 2))), (0, .ref hm), (1, .ref ha), (2, .int (nI b))]) hx hb d_Mk_putPath_38 hl rfl (by decide) (by decide) rfl (fun ls hl => ?_)
      refine lv_goto (tgt := 11) hx hb d_Mk_putPath_41 (by decide) ?_
      refine lv_iload hx hb d_Mk_putPath_11 (lv_at hl 0 rfl) ?_
      refine lv_iconst (v := (nI 3)) hx hb d_Mk_putPath_13 (by decide) ?_
      refine nb_ge (tgt := 44) hx hb d_Mk_putPath_14 (by decide) (by decide) (by decide) (fun h_3 => ?_) (fun h_3 => ?_)
      · exact absurd h_3 (by decide)
      · refine lv_aload_n hx hb d_Mk_putPath_17 rfl (lv_at hl 3 rfl) ?_
        refine lv_iload_n hx hb d_Mk_putPath_18 rfl (lv_at hl 4 rfl) ?_
        refine lv_bipush (v := (nI 11)) hx hb d_Mk_putPath_19 (by decide) ?_
        refine lv_iadd hx hb d_Mk_putPath_21 ?_
        refine tp (nI_add _ _) ?_
        refine lv_iload hx hb d_Mk_putPath_22 (lv_at hl 0 rfl) ?_
        refine lv_iadd hx hb d_Mk_putPath_24 ?_
        refine tp (y := (nI (b + 13))) (nI_add _ _) ?_
        refine lv_aload_n hx hb d_Mk_putPath_25 rfl (lv_at hl 2 rfl) ?_
        refine va_get (D := (dC, dI)) (ci := 1) (v := .ref hn) (C := R_Mk) (T := F_Mk) (N := 3) hx hb hts in_Mk hown hK hP 0 rfl rfl 1 (by decide) (hts _ kw_77) (fun _ h9 => h9) rfl d_Mk_putPath_26 ?_
        refine lv_iload_n hx hb d_Mk_putPath_29 rfl (lv_at hl 1 rfl) ?_
        refine lv_iconst (v := (nI 1)) hx hb d_Mk_putPath_30 (by decide) ?_
        refine lv_ixor hx hb d_Mk_putPath_31 ?_
        refine tp (sib_eq (n := ((8 + nk) / 2) / 2) (by omega)) ?_
        refine ar_ld (k := sib (((8 + nk) / 2) / 2)) hx hb hK hP 1 0 rfl rfl (by exact sib_lt (by omega)) (by first | decide | omega) d_Mk_putPath_32 ?_
        refine ar_st (k := b + 13) hx hb hK hP hD hS 2 0 rfl rfl (by omega) (by first | decide | omega) d_Mk_putPath_33 (fun H locs hP hD hS => ?_)
        have hP : va_P (dC, dI) classes [(hm, .inr (1, [.int sc, .ref hn, .int (nI nk)])), (hn, .inl (cI, 16, .inl nd)), (ha, .inl (cI, N, .inl (upd (upd (upd f (b + 11) (nd (sib (8 + nk)))) (b + 12) (nd (sib ((8 + nk) / 2)))) (b + 13) (nd (sib (((8 + nk) / 2) / 2))))))] H := hP
        have hD : va_D A [(hm, .inr (1, [.int sc, .ref hn, .int (nI nk)])), (hn, .inl (cI, 16, .inl nd)), (ha, .inl (cI, N, .inl (upd (upd (upd f (b + 11) (nd (sib (8 + nk)))) (b + 12) (nd (sib ((8 + nk) / 2)))) (b + 13) (nd (sib (((8 + nk) / 2) / 2))))))] := hD
        refine lv_iload_n hx hb d_Mk_putPath_34 rfl (lv_at hl 1 rfl) ?_
        refine lv_iconst (v := (nI 2)) hx hb d_Mk_putPath_35 (by decide) ?_
        refine lv_idiv hx hb d_Mk_putPath_36 (by decide) ?_
        refine tp (pk_div (by omega) (by decide) (by decide)) ?_
        refine lv_istore_n (lv' := [(3, .int (nI ((((8 + nk) / 2) / 2) / 2))), (4, .int (nI 2)), (0, .ref hm), (1, .ref ha), (2, .int (nI b))]) hx hb d_Mk_putPath_37 rfl hl (by decide) rfl (fun ls hl => ?_)
        refine lv_iinc (k := 1) (v := (nI 3)) (lv' := [(4, .int (nI 3)), (3, .int (nI ((((8 + nk) / 2) / 2) / 2))), (0, .ref hm), (1, .ref ha), (2, .int (nI b))]) hx hb d_Mk_putPath_38 hl rfl (by decide) (by decide) rfl (fun ls hl => ?_)
        refine lv_goto (tgt := 11) hx hb d_Mk_putPath_41 (by decide) ?_
        refine lv_iload hx hb d_Mk_putPath_11 (lv_at hl 0 rfl) ?_
        refine lv_iconst (v := (nI 3)) hx hb d_Mk_putPath_13 (by decide) ?_
        refine nb_ge (tgt := 44) hx hb d_Mk_putPath_14 (by decide) (by decide) (by decide) (fun h_4 => ?_) (fun h_4 => ?_)
        · exact W.vret hx hb hr (fun t ht hW => ⟨⟨(upd (upd (upd f (b + 11) (nd (sib (8 + nk)))) (b + 12) (nd (sib ((8 + nk) / 2)))) (b + 13) (nd (sib (((8 + nk) / 2) / 2)))), rfl, (by first | rfl | (simp only []; done) | (simp only []; rfl) | (simp []; done)), by rw [ht]; exact hP, hD⟩, hS.F ht⟩) hS.2.2 d_Mk_putPath_44
        · exact absurd h_4 (by decide)
set_option maxHeartbeats 4000000 in
set_option maxRecDepth 100000 in
theorem c_Mk_pack (l : Launch) (dC : Nat → ClassId) (dI : Nat → Nat → Nat) (cI : ClassId) (hm : Nat) (ha : Nat) (b : Nat) (ve : Int32) (a0 : Int32) (a1 : Int32) (a2 : Int32) (sc : Int32) (hn : Nat) (nk : Nat) (nd : Nat → Int32) (N : Nat) (f : Nat → Int32) (hN : N < 2 ^ 31) (hbN : b + 17 ≤ N) (hnk : nk < 8) (sz : Nat) : Met l y_Mk_pack w_Mk_pack ({ frames := 3, cells := 0, slots := 0, locals := 72 }) (va_Pc [.ref hm, .ref ha, .int (nI b), .int ve, .int a0, .int a1, .int a2] (fun U => U.heap.size = sz ∧ va_P (dC, dI) classes [(hm, .inr (1, [.int sc, .ref hn, .int (nI nk)])), (hn, .inl (cI, 16, .inl nd)), (ha, .inl (cI, N, .inl f))] U.heap ∧ KN dC dI cI U ∧ va_D (fun _ => True) [(hm, .inr (1, [.int sc, .ref hn, .int (nI nk)])), (hn, .inl (cI, 16, .inl nd)), (ha, .inl (cI, N, .inl f))])) (va_Qv (fun u : Nat × (Nat → Int32) => pk17 sc nd nk b ve a0 a1 a2 f = u) (fun (u : Nat × (Nat → Int32)) t => va_P (dC, dI) classes [(hm, .inr (1, [.int sc, .ref hn, .int (nI u.1)])), (hn, .inl (cI, 16, .inl nd)), (ha, .inl (cI, N, .inl u.2))] t.heap ∧ va_D (va_A [(hm, .inr (1, [.int sc, .ref hn, .int (nI nk)])), (hn, .inl (cI, 16, .inl nd)), (ha, .inl (cI, N, .inl f))] sz) [(hm, .inr (1, [.int sc, .ref hn, .int (nI u.1)])), (hn, .inl (cI, 16, .inl nd)), (ha, .inl (cI, N, .inl u.2))]) (va_A [(hm, .inr (1, [.int sc, .ref hn, .int (nI nk)])), (hn, .inl (cI, 16, .inl nd)), (ha, .inl (cI, N, .inl f))] sz)) 0 0 (va_A [(hm, .inr (1, [.int sc, .ref hn, .int (nI nk)])), (hn, .inl (cI, 16, .inl nd)), (ha, .inl (cI, N, .inl f))] sz) := by
  refine Met.ofW (cc := b_Mk_pack) (maxL := 7) (ret := none) (by decide) rfl ?_
  intro p e s m args below meth c s₁ B hml hv
  obtain ⟨rfl, hsz, hP, hKN, hD0⟩ := hv
  have hK := hKN.1
  have hx := B.exec
  have hb := B.bytes
  have hr := B.returns
  have hts := fun (w : Cond) (h : w ∈ gt) => atoms_spec (ws := w_Mk_pack) B.pre w (List.mem_cons_of_mem _ h)
  have hown : s.vm.findClass R_Mk = some m.cls := findClass_of_methodNamed B.named
  have hlocks := B.notSynchronized
  subst hsz
  have hD := hD0.self (sz := s.heap.size)
  generalize hAe : va_A [(hm, .inr (1, [.int sc, .ref hn, .int (nI nk)])), (hn, .inl (cI, 16, .inl nd)), (ha, .inl (cI, N, .inl f))] s.heap.size = A at hD ⊢
  have hA : ∀ q : Nat, s.heap.size ≤ q → A q := fun q h => by rw [← hAe]; exact Or.inr h
  have hS : va_S A s.heap s.heap [] := va_S.rf
  have hP : va_P (dC, dI) classes [(hm, .inr (1, [.int sc, .ref hn, .int (nI nk)])), (hn, .inl (cI, 16, .inl nd)), (ha, .inl (cI, N, .inl f))] s.heap := hP
  clear hAe hD0
  have hl := lv_entry ([.ref hm, .ref ha, .int (nI b), .int ve, .int a0, .int a1, .int a2]) (n := 7) (Nat.le_of_ble_eq_true rfl)
  rw [lg_entry_eq]
  generalize (lg_sl ([.ref hm, .ref ha, .int (nI b), .int ve, .int a0, .int a1, .int a2]) ++ List.replicate (7 - (lg_sl ([.ref hm, .ref ha, .int (nI b), .int ve, .int a0, .int a1, .int a2])).length) Slot.unset).toArray = ls at hl ⊢
  have hl : lv_has ls 7 [(0, .ref hm), (1, .ref ha), (2, .int (nI b)), (3, .int ve), (4, .int a0), (5, .int a1), (6, .int a2)] := hl
  refine lv_aload_n hx hb d_Mk_pack_0 rfl (lv_at hl 1 rfl) ?_
  refine lv_iload_n hx hb d_Mk_pack_1 rfl (lv_at hl 2 rfl) ?_
  refine lv_iload_n hx hb d_Mk_pack_2 rfl (lv_at hl 3 rfl) ?_
  refine ar_st (k := b) hx hb hK hP hD hS 2 0 rfl rfl (by omega) (by first | decide | omega) d_Mk_pack_3 (fun H locs hP hD hS => ?_)
  have hP : va_P (dC, dI) classes [(hm, .inr (1, [.int sc, .ref hn, .int (nI nk)])), (hn, .inl (cI, 16, .inl nd)), (ha, .inl (cI, N, .inl (upd f b ve)))] H := hP
  have hD : va_D A [(hm, .inr (1, [.int sc, .ref hn, .int (nI nk)])), (hn, .inl (cI, 16, .inl nd)), (ha, .inl (cI, N, .inl (upd f b ve)))] := hD
  refine lv_aload_n hx hb d_Mk_pack_4 rfl (lv_at hl 1 rfl) ?_
  refine lv_iload_n hx hb d_Mk_pack_5 rfl (lv_at hl 2 rfl) ?_
  refine lv_iconst (v := (nI 0)) hx hb d_Mk_pack_6 (by decide) ?_
  refine lv_iload hx hb d_Mk_pack_7 (lv_at hl 4 rfl) ?_
  have hPc := hP.sub (ws' := [(ha, .inl (cI, N, .inl (upd f b ve)))]) [2] rfl
  have hDc := hD.sub (ws' := [(ha, .inl (cI, N, .inl (upd f b ve)))]) [2] (by decide) rfl
  have hFc := va_free (wc := [(ha, .inl (cI, N, .inl (upd f b ve)))]) hD hS hA [2] rfl
  refine va_callv (va_runS (As := [.ref ha, .int (nI b), .int (nI 0), .int a0]) (rest := []) ⟨hx, hb, hml, hown, hts⟩ (c_PW_putStage l dC dI cI (ha := ha) (b := b) (k := 0) (im := a0) (N := N) (f := upd f b ve) (hN := (by omega)) (hbN := (by omega)) (hk := (by omega)) (sz := H.size)) ⟨callB_of 4 hts (gd kw_93) rfl rfl rfl (hts _ kw_38) (hts _ kw_91) (by decide +kernel) ⟨Nat.le_of_ble_eq_true rfl, Nat.le_of_ble_eq_true rfl⟩, (hts _ kw_92)⟩ ⟨fun a U g mk q => by obtain ⟨q0, q1, qP, qK, qD⟩ := q; exact ⟨q0, q1, qP, qK.call, qD⟩, fun U hU hW => ⟨rfl, by rw [hU], by rw [hU]; exact hPc, hKN.warm hW, hDc.weaken (fun _ _ _ _ => trivial)⟩⟩ rfl rfl hl.1 rfl (lv_room (Nat.le_of_ble_eq_true rfl)) d_Mk_pack_9 ⟨Nat.zero_le _, Nat.zero_le _⟩) hS (fun q _ h => hFc q h) hFc (fun u t H1 locs zt zvm zw zB zz zk hS => ?_)
  obtain ⟨f_1, rfl⟩ : ∃ z, z = u := ⟨_, rfl⟩
  have hu_1 := zw
  obtain ⟨hP1, hD1⟩ := zB
  rw [zt] at hP1
  have hP1 : va_P (dC, dI) classes [(ha, .inl (cI, N, .inl f_1))] H1 := hP1
  obtain ⟨hP, hD⟩ := va_join (wc := [(ha, .inl (cI, N, .inl (upd f b ve)))]) (wr := [(hm, .inr (1, [.int sc, .ref hn, .int (nI nk)])), (hn, .inl (cI, 16, .inl nd))]) (w1 := [(ha, .inl (cI, N, .inl f_1))]) hP hD [2] [0, 1] rfl rfl (by decide) (by decide) zk hFc hP1 hD1
  generalize H1 = H at hP hS ⊢
  have hP : va_P (dC, dI) classes [(hm, .inr (1, [.int sc, .ref hn, .int (nI nk)])), (hn, .inl (cI, 16, .inl nd)), (ha, .inl (cI, N, .inl f_1))] H := hP.sub [0, 1, 2] rfl
  have hD : va_D A [(hm, .inr (1, [.int sc, .ref hn, .int (nI nk)])), (hn, .inl (cI, 16, .inl nd)), (ha, .inl (cI, N, .inl f_1))] := hD.sub [0, 1, 2] (by decide) rfl
  clear hPc hDc hFc hP1 hD1 zk zz zvm zt
  refine lv_aload_n hx hb d_Mk_pack_12 rfl (lv_at hl 1 rfl) ?_
  refine lv_iload_n hx hb d_Mk_pack_13 rfl (lv_at hl 2 rfl) ?_
  refine lv_iconst (v := (nI 1)) hx hb d_Mk_pack_14 (by decide) ?_
  refine lv_iload hx hb d_Mk_pack_15 (lv_at hl 5 rfl) ?_
  have hPc := hP.sub (ws' := [(ha, .inl (cI, N, .inl f_1))]) [2] rfl
  have hDc := hD.sub (ws' := [(ha, .inl (cI, N, .inl f_1))]) [2] (by decide) rfl
  have hFc := va_free (wc := [(ha, .inl (cI, N, .inl f_1))]) hD hS hA [2] rfl
  refine va_callv (va_runS (As := [.ref ha, .int (nI b), .int (nI 1), .int a1]) (rest := []) ⟨hx, hb, hml, hown, hts⟩ (c_PW_putStage l dC dI cI (ha := ha) (b := b) (k := 1) (im := a1) (N := N) (f := f_1) (hN := (by omega)) (hbN := (by omega)) (hk := (by omega)) (sz := H.size)) ⟨callB_of 4 hts (gd kw_93) rfl rfl rfl (hts _ kw_38) (hts _ kw_91) (by decide +kernel) ⟨Nat.le_of_ble_eq_true rfl, Nat.le_of_ble_eq_true rfl⟩, (hts _ kw_92)⟩ ⟨fun a U g mk q => by obtain ⟨q0, q1, qP, qK, qD⟩ := q; exact ⟨q0, q1, qP, qK.call, qD⟩, fun U hU hW => ⟨rfl, by rw [hU], by rw [hU]; exact hPc, hKN.warm hW, hDc.weaken (fun _ _ _ _ => trivial)⟩⟩ rfl rfl hl.1 rfl (lv_room (Nat.le_of_ble_eq_true rfl)) d_Mk_pack_17 ⟨Nat.zero_le _, Nat.zero_le _⟩) hS (fun q _ h => hFc q h) hFc (fun u t H1 locs zt zvm zw zB zz zk hS => ?_)
  obtain ⟨f_2, rfl⟩ : ∃ z, z = u := ⟨_, rfl⟩
  have hu_2 := zw
  obtain ⟨hP1, hD1⟩ := zB
  rw [zt] at hP1
  have hP1 : va_P (dC, dI) classes [(ha, .inl (cI, N, .inl f_2))] H1 := hP1
  obtain ⟨hP, hD⟩ := va_join (wc := [(ha, .inl (cI, N, .inl f_1))]) (wr := [(hm, .inr (1, [.int sc, .ref hn, .int (nI nk)])), (hn, .inl (cI, 16, .inl nd))]) (w1 := [(ha, .inl (cI, N, .inl f_2))]) hP hD [2] [0, 1] rfl rfl (by decide) (by decide) zk hFc hP1 hD1
  generalize H1 = H at hP hS ⊢
  have hP : va_P (dC, dI) classes [(hm, .inr (1, [.int sc, .ref hn, .int (nI nk)])), (hn, .inl (cI, 16, .inl nd)), (ha, .inl (cI, N, .inl f_2))] H := hP.sub [0, 1, 2] rfl
  have hD : va_D A [(hm, .inr (1, [.int sc, .ref hn, .int (nI nk)])), (hn, .inl (cI, 16, .inl nd)), (ha, .inl (cI, N, .inl f_2))] := hD.sub [0, 1, 2] (by decide) rfl
  clear hPc hDc hFc hP1 hD1 zk zz zvm zt
  refine lv_aload_n hx hb d_Mk_pack_20 rfl (lv_at hl 1 rfl) ?_
  refine lv_iload_n hx hb d_Mk_pack_21 rfl (lv_at hl 2 rfl) ?_
  refine lv_iconst (v := (nI 2)) hx hb d_Mk_pack_22 (by decide) ?_
  refine lv_iload hx hb d_Mk_pack_23 (lv_at hl 6 rfl) ?_
  have hPc := hP.sub (ws' := [(ha, .inl (cI, N, .inl f_2))]) [2] rfl
  have hDc := hD.sub (ws' := [(ha, .inl (cI, N, .inl f_2))]) [2] (by decide) rfl
  have hFc := va_free (wc := [(ha, .inl (cI, N, .inl f_2))]) hD hS hA [2] rfl
  refine va_callv (va_runS (As := [.ref ha, .int (nI b), .int (nI 2), .int a2]) (rest := []) ⟨hx, hb, hml, hown, hts⟩ (c_PW_putStage l dC dI cI (ha := ha) (b := b) (k := 2) (im := a2) (N := N) (f := f_2) (hN := (by omega)) (hbN := (by omega)) (hk := (by omega)) (sz := H.size)) ⟨callB_of 4 hts (gd kw_93) rfl rfl rfl (hts _ kw_38) (hts _ kw_91) (by decide +kernel) ⟨Nat.le_of_ble_eq_true rfl, Nat.le_of_ble_eq_true rfl⟩, (hts _ kw_92)⟩ ⟨fun a U g mk q => by obtain ⟨q0, q1, qP, qK, qD⟩ := q; exact ⟨q0, q1, qP, qK.call, qD⟩, fun U hU hW => ⟨rfl, by rw [hU], by rw [hU]; exact hPc, hKN.warm hW, hDc.weaken (fun _ _ _ _ => trivial)⟩⟩ rfl rfl hl.1 rfl (lv_room (Nat.le_of_ble_eq_true rfl)) d_Mk_pack_25 ⟨Nat.zero_le _, Nat.zero_le _⟩) hS (fun q _ h => hFc q h) hFc (fun u t H1 locs zt zvm zw zB zz zk hS => ?_)
  obtain ⟨f_3, rfl⟩ : ∃ z, z = u := ⟨_, rfl⟩
  have hu_3 := zw
  obtain ⟨hP1, hD1⟩ := zB
  rw [zt] at hP1
  have hP1 : va_P (dC, dI) classes [(ha, .inl (cI, N, .inl f_3))] H1 := hP1
  obtain ⟨hP, hD⟩ := va_join (wc := [(ha, .inl (cI, N, .inl f_2))]) (wr := [(hm, .inr (1, [.int sc, .ref hn, .int (nI nk)])), (hn, .inl (cI, 16, .inl nd))]) (w1 := [(ha, .inl (cI, N, .inl f_3))]) hP hD [2] [0, 1] rfl rfl (by decide) (by decide) zk hFc hP1 hD1
  generalize H1 = H at hP hS ⊢
  have hP : va_P (dC, dI) classes [(hm, .inr (1, [.int sc, .ref hn, .int (nI nk)])), (hn, .inl (cI, 16, .inl nd)), (ha, .inl (cI, N, .inl f_3))] H := hP.sub [0, 1, 2] rfl
  have hD : va_D A [(hm, .inr (1, [.int sc, .ref hn, .int (nI nk)])), (hn, .inl (cI, 16, .inl nd)), (ha, .inl (cI, N, .inl f_3))] := hD.sub [0, 1, 2] (by decide) rfl
  clear hPc hDc hFc hP1 hD1 zk zz zvm zt
  refine lv_aload_n hx hb d_Mk_pack_28 rfl (lv_at hl 1 rfl) ?_
  refine lv_iload_n hx hb d_Mk_pack_29 rfl (lv_at hl 2 rfl) ?_
  refine lv_iconst (v := (nI 4)) hx hb d_Mk_pack_30 (by decide) ?_
  refine lv_iadd hx hb d_Mk_pack_31 ?_
  refine tp (nI_add _ _) ?_
  refine lv_aload_n hx hb d_Mk_pack_32 rfl (lv_at hl 0 rfl) ?_
  refine va_get (D := (dC, dI)) (ci := 1) (v := .int (nI nk)) (C := R_Mk) (T := F_Mk) (N := 3) hx hb hts in_Mk hown hK hP 0 rfl rfl 2 (by decide) (hts _ kw_78) (fun _ h9 => h9) rfl d_Mk_pack_33 ?_
  refine ar_st (k := b + 4) hx hb hK hP hD hS 2 0 rfl rfl (by omega) (by first | decide | omega) d_Mk_pack_36 (fun H locs hP hD hS => ?_)
  have hP : va_P (dC, dI) classes [(hm, .inr (1, [.int sc, .ref hn, .int (nI nk)])), (hn, .inl (cI, 16, .inl nd)), (ha, .inl (cI, N, .inl (upd f_3 (b + 4) (nI nk))))] H := hP
  have hD : va_D A [(hm, .inr (1, [.int sc, .ref hn, .int (nI nk)])), (hn, .inl (cI, 16, .inl nd)), (ha, .inl (cI, N, .inl (upd f_3 (b + 4) (nI nk))))] := hD
  refine lv_aload_n hx hb d_Mk_pack_37 rfl (lv_at hl 0 rfl) ?_
  refine lv_aload_n hx hb d_Mk_pack_38 rfl (lv_at hl 1 rfl) ?_
  refine lv_iload_n hx hb d_Mk_pack_39 rfl (lv_at hl 2 rfl) ?_
  have hPc := hP.sub (ws' := [(hm, .inr (1, [.int sc, .ref hn, .int (nI nk)])), (ha, .inl (cI, N, .inl (upd f_3 (b + 4) (nI nk))))]) [0, 2] rfl
  have hDc := hD.sub (ws' := [(hm, .inr (1, [.int sc, .ref hn, .int (nI nk)])), (ha, .inl (cI, N, .inl (upd f_3 (b + 4) (nI nk))))]) [0, 2] (by decide) rfl
  have hFc := va_free (wc := [(hm, .inr (1, [.int sc, .ref hn, .int (nI nk)])), (ha, .inl (cI, N, .inl (upd f_3 (b + 4) (nI nk))))]) hD hS hA [0, 2] rfl
  refine va_callv (va_runV (As := [.ref ha, .int (nI b)]) (rest := []) ⟨hx, hb, hml, hown, hts⟩ (c_Mk_putChains l dC dI cI (hm := hm) (ha := ha) (b := b) (sc := sc) (hn := hn) (nk := nk) (N := N) (f := upd f_3 (b + 4) (nI nk)) (hN := (by omega)) (hbN := (by omega)) (sz := H.size)) ⟨callB_of 2 hts (gd kw_101) rfl rfl rfl (hts _ kw_36) (hts _ kw_98) (by decide +kernel) ⟨Nat.le_of_ble_eq_true rfl, Nat.le_of_ble_eq_true rfl⟩, (hts _ kw_100), (hts _ kw_0)⟩ ⟨fun a U g mk q => by obtain ⟨q0, q1, qP, qK, qD⟩ := q; exact ⟨q0, q1, qP, qK.call, qD⟩, va_recv hK hP (ci := 1) rfl (q0 := 0) rfl, fun U hU hW => ⟨rfl, by rw [hU], by rw [hU]; exact hPc, hKN.warm hW, hDc.weaken (fun _ _ _ _ => trivial)⟩⟩ rfl rfl hl.1 rfl (lv_room (Nat.le_of_ble_eq_true rfl)) d_Mk_pack_40 ⟨Nat.zero_le _, Nat.zero_le _⟩) hS (fun q _ h => hFc q h) hFc (fun u t H1 locs zt zvm zw zB zz zk hS => ?_)
  obtain ⟨f_4, rfl⟩ : ∃ z, z = u := ⟨_, rfl⟩
  have hu_4 := zw
  obtain ⟨hP1, hD1⟩ := zB
  rw [zt] at hP1
  have hP1 : va_P (dC, dI) classes [(hm, .inr (1, [.int sc, .ref hn, .int (nI nk)])), (ha, .inl (cI, N, .inl f_4))] H1 := hP1
  obtain ⟨hP, hD⟩ := va_join (wc := [(hm, .inr (1, [.int sc, .ref hn, .int (nI nk)])), (ha, .inl (cI, N, .inl (upd f_3 (b + 4) (nI nk))))]) (wr := [(hn, .inl (cI, 16, .inl nd))]) (w1 := [(hm, .inr (1, [.int sc, .ref hn, .int (nI nk)])), (ha, .inl (cI, N, .inl f_4))]) hP hD [0, 2] [1] rfl rfl (by decide) (by decide) zk hFc hP1 hD1
  generalize H1 = H at hP hS ⊢
  have hP : va_P (dC, dI) classes [(hm, .inr (1, [.int sc, .ref hn, .int (nI nk)])), (hn, .inl (cI, 16, .inl nd)), (ha, .inl (cI, N, .inl f_4))] H := hP.sub [1, 0, 2] rfl
  have hD : va_D A [(hm, .inr (1, [.int sc, .ref hn, .int (nI nk)])), (hn, .inl (cI, 16, .inl nd)), (ha, .inl (cI, N, .inl f_4))] := hD.sub [1, 0, 2] (by decide) rfl
  clear hPc hDc hFc hP1 hD1 zk zz zvm zt
  refine lv_aload_n hx hb d_Mk_pack_43 rfl (lv_at hl 0 rfl) ?_
  refine lv_aload_n hx hb d_Mk_pack_44 rfl (lv_at hl 1 rfl) ?_
  refine lv_iload_n hx hb d_Mk_pack_45 rfl (lv_at hl 2 rfl) ?_
  have hPc := hP.sub (ws' := [(hm, .inr (1, [.int sc, .ref hn, .int (nI nk)])), (hn, .inl (cI, 16, .inl nd)), (ha, .inl (cI, N, .inl f_4))]) [0, 1, 2] rfl
  have hDc := hD.sub (ws' := [(hm, .inr (1, [.int sc, .ref hn, .int (nI nk)])), (hn, .inl (cI, 16, .inl nd)), (ha, .inl (cI, N, .inl f_4))]) [0, 1, 2] (by decide) rfl
  have hFc := va_free (wc := [(hm, .inr (1, [.int sc, .ref hn, .int (nI nk)])), (hn, .inl (cI, 16, .inl nd)), (ha, .inl (cI, N, .inl f_4))]) hD hS hA [0, 1, 2] rfl
  refine va_callv (va_runV (As := [.ref ha, .int (nI b)]) (rest := []) ⟨hx, hb, hml, hown, hts⟩ (c_Mk_putPath l dC dI cI (hm := hm) (ha := ha) (b := b) (sc := sc) (hn := hn) (nk := nk) (nd := nd) (N := N) (f := f_4) (hN := (by omega)) (hbN := (by omega)) (hnk := (by omega)) (sz := H.size)) ⟨callB_of 2 hts (gd kw_111) rfl rfl rfl (hts _ kw_36) (hts _ kw_108) (by decide +kernel) ⟨Nat.le_of_ble_eq_true rfl, Nat.le_of_ble_eq_true rfl⟩, (hts _ kw_110), (hts _ kw_1)⟩ ⟨fun a U g mk q => by obtain ⟨q0, q1, qP, qK, qD⟩ := q; exact ⟨q0, q1, qP, qK.call, qD⟩, va_recv hK hP (ci := 1) rfl (q0 := 0) rfl, fun U hU hW => ⟨rfl, by rw [hU], by rw [hU]; exact hPc, hKN.warm hW, hDc.weaken (fun _ _ _ _ => trivial)⟩⟩ rfl rfl hl.1 rfl (lv_room (Nat.le_of_ble_eq_true rfl)) d_Mk_pack_46 ⟨Nat.zero_le _, Nat.zero_le _⟩) hS (fun q _ h => hFc q h) hFc (fun u t H1 locs zt zvm zw zB zz zk hS => ?_)
  obtain ⟨f_5, rfl⟩ : ∃ z, z = u := ⟨_, rfl⟩
  have hu_5 := zw
  obtain ⟨hP1, hD1⟩ := zB
  rw [zt] at hP1
  have hP1 : va_P (dC, dI) classes [(hm, .inr (1, [.int sc, .ref hn, .int (nI nk)])), (hn, .inl (cI, 16, .inl nd)), (ha, .inl (cI, N, .inl f_5))] H1 := hP1
  obtain ⟨hP, hD⟩ := va_join (wc := [(hm, .inr (1, [.int sc, .ref hn, .int (nI nk)])), (hn, .inl (cI, 16, .inl nd)), (ha, .inl (cI, N, .inl f_4))]) (wr := []) (w1 := [(hm, .inr (1, [.int sc, .ref hn, .int (nI nk)])), (hn, .inl (cI, 16, .inl nd)), (ha, .inl (cI, N, .inl f_5))]) hP hD [0, 1, 2] [] rfl rfl (by decide) (by decide) zk hFc hP1 hD1
  generalize H1 = H at hP hS ⊢
  have hP : va_P (dC, dI) classes [(hm, .inr (1, [.int sc, .ref hn, .int (nI nk)])), (hn, .inl (cI, 16, .inl nd)), (ha, .inl (cI, N, .inl f_5))] H := hP.sub [0, 1, 2] rfl
  have hD : va_D A [(hm, .inr (1, [.int sc, .ref hn, .int (nI nk)])), (hn, .inl (cI, 16, .inl nd)), (ha, .inl (cI, N, .inl f_5))] := hD.sub [0, 1, 2] (by decide) rfl
  clear hPc hDc hFc hP1 hD1 zk zz zvm zt
  refine lv_aload_n hx hb d_Mk_pack_49 rfl (lv_at hl 0 rfl) ?_
  refine lv_dup hx hb d_Mk_pack_50 rfl ?_
  refine va_get (D := (dC, dI)) (ci := 1) (v := .int (nI nk)) (C := R_Mk) (T := F_Mk) (N := 3) hx hb hts in_Mk hown hK hP 0 rfl rfl 2 (by decide) (hts _ kw_78) (fun _ h9 => h9) rfl d_Mk_pack_51 ?_
  refine lv_iconst (v := (nI 1)) hx hb d_Mk_pack_54 (by decide) ?_
  refine lv_iadd hx hb d_Mk_pack_55 ?_
  refine tp (nI_add _ _) ?_
  refine va_put (D := (dC, dI)) (ci := 1) (v := .int (nI (nk + 1))) (ty := .int) (C := R_Mk) (T := F_Mk) (N := 3) hx hb hts in_Mk t_Mk t_Mk_ok n_Mk hown hK hP hD hS 0 rfl rfl 2 (by decide) (hts _ kw_78) (fun _ h9 => h9) rfl (by decide +kernel) rfl rfl (Nat.le_of_ble_eq_true rfl) d_Mk_pack_56 (fun H locs hP hD hS => ?_)
  have hP : va_P (dC, dI) classes [(hm, .inr (1, [.int sc, .ref hn, .int (nI (nk + 1))])), (hn, .inl (cI, 16, .inl nd)), (ha, .inl (cI, N, .inl f_5))] H := hP
  have hD : va_D A [(hm, .inr (1, [.int sc, .ref hn, .int (nI (nk + 1))])), (hn, .inl (cI, 16, .inl nd)), (ha, .inl (cI, N, .inl f_5))] := hD
  exact W.vret hx hb hr (fun t ht hW => ⟨⟨(nk + 1, f_5), rfl, (by first | rfl | (simp only [pk17, hu_1, hu_2, hu_3, hu_4, hu_5]; done) | (simp only [pk17, hu_1, hu_2, hu_3, hu_4, hu_5]; rfl) | (simp [pk17, hu_1, hu_2, hu_3, hu_4, hu_5]; done)), by rw [ht]; exact hP, hD⟩, hS.F ht⟩) hS.2.2 d_Mk_pack_59
