set_option maxHeartbeats 4000000 in
set_option maxRecDepth 100000 in
theorem c_Mo_table (l : Launch) (dC : Nat → ClassId) (dI : Nat → Nat → Nat) (cI : ClassId) (hm : Nat) (k : Nat) (v : Nat) (g : Nat) (sc : Int32) (hw : Nat) (cn : Nat) (fu : Nat) (lf : Int32) (dd : Bool) (dn : Int32) (rn : Int32) (tr : Bool) (lg : Nat) (he : Nat) (me : Int32) (hd : Nat) (hen : Nat) (hnd : Nat) (M : Nat → Int32) (hk : k < 2) (sz : Nat) : Met l y_Mo_table w_Mo_table ({ frames := 6, cells := 0, slots := 0, locals := 130 }) (va_Pc [.ref hm, .int (nI k), .int (nI v), .int (nI g)] (fun U => U.heap.size = sz ∧ va_P (dC, dI) classes [(hm, .inr (3, [.int sc, .ref hw, .int (nI cn), .int (nI fu), .int lf, .int (bI dd), .int dn, .int rn, .int (bI tr), .int (nI lg), .ref he, .int me, .ref hd, .ref hen, .ref hnd])), (hw, .inl (cI, 160, .inl M))] U.heap ∧ KN dC dI cI U ∧ va_D (fun _ => True) [(hm, .inr (3, [.int sc, .ref hw, .int (nI cn), .int (nI fu), .int lf, .int (bI dd), .int dn, .int rn, .int (bI tr), .int (nI lg), .ref he, .int me, .ref hd, .ref hen, .ref hnd])), (hw, .inl (cI, 160, .inl M))])) (va_Qv (fun u : (Nat → Int32) × Bool × Int32 × Int32 => mTab (tbe k v g (stt (ety M) (1 - k))) M dd dn lf = u) (fun (u : (Nat → Int32) × Bool × Int32 × Int32) t => va_P (dC, dI) classes [(hm, .inr (3, [.int sc, .ref hw, .int (nI cn), .int (nI fu), .int u.2.2.2, .int (bI u.2.1), .int u.2.2.1, .int rn, .int (bI tr), .int (nI lg), .ref he, .int me, .ref hd, .ref hen, .ref hnd])), (hw, .inl (cI, 160, .inl u.1))] t.heap ∧ va_D (va_A [(hm, .inr (3, [.int sc, .ref hw, .int (nI cn), .int (nI fu), .int lf, .int (bI dd), .int dn, .int rn, .int (bI tr), .int (nI lg), .ref he, .int me, .ref hd, .ref hen, .ref hnd])), (hw, .inl (cI, 160, .inl M))] sz) [(hm, .inr (3, [.int sc, .ref hw, .int (nI cn), .int (nI fu), .int u.2.2.2, .int (bI u.2.1), .int u.2.2.1, .int rn, .int (bI tr), .int (nI lg), .ref he, .int me, .ref hd, .ref hen, .ref hnd])), (hw, .inl (cI, 160, .inl u.1))]) (va_A [(hm, .inr (3, [.int sc, .ref hw, .int (nI cn), .int (nI fu), .int lf, .int (bI dd), .int dn, .int rn, .int (bI tr), .int (nI lg), .ref he, .int me, .ref hd, .ref hen, .ref hnd])), (hw, .inl (cI, 160, .inl M))] sz)) 0 0 (va_A [(hm, .inr (3, [.int sc, .ref hw, .int (nI cn), .int (nI fu), .int lf, .int (bI dd), .int dn, .int rn, .int (bI tr), .int (nI lg), .ref he, .int me, .ref hd, .ref hen, .ref hnd])), (hw, .inl (cI, 160, .inl M))] sz) := by
  refine Met.ofW (cc := b_Mo_table) (maxL := 9) (ret := none) (by decide) rfl ?_
  intro p e s m args below meth c s₁ B hml hv
  obtain ⟨rfl, hsz, hP, hKN, hD0⟩ := hv
  have hK := hKN.1
  have hx := B.exec
  have hb := B.bytes
  have hr := B.returns
  have hts := fun (w : Cond) (h : w ∈ gt) => atoms_spec (ws := w_Mo_table) B.pre w (List.mem_cons_of_mem _ h)
  have hown : s.vm.findClass R_Mo = some m.cls := findClass_of_methodNamed B.named
  have hlocks := B.notSynchronized
  subst hsz
  have hD := hD0.self (sz := s.heap.size)
  generalize hAe : va_A [(hm, .inr (3, [.int sc, .ref hw, .int (nI cn), .int (nI fu), .int lf, .int (bI dd), .int dn, .int rn, .int (bI tr), .int (nI lg), .ref he, .int me, .ref hd, .ref hen, .ref hnd])), (hw, .inl (cI, 160, .inl M))] s.heap.size = A at hD ⊢
  have hA : ∀ q : Nat, s.heap.size ≤ q → A q := fun q h => by rw [← hAe]; exact Or.inr h
  have hS : va_S A s.heap s.heap [] := va_S.rf
  have hP : va_P (dC, dI) classes [(hm, .inr (3, [.int sc, .ref hw, .int (nI cn), .int (nI fu), .int lf, .int (bI dd), .int dn, .int rn, .int (bI tr), .int (nI lg), .ref he, .int me, .ref hd, .ref hen, .ref hnd])), (hw, .inl (cI, 160, .inl M))] s.heap := hP
  clear hAe hD0
  have hl := lv_entry ([.ref hm, .int (nI k), .int (nI v), .int (nI g)]) (n := 9) (Nat.le_of_ble_eq_true rfl)
  rw [lg_entry_eq]
  generalize (lg_sl ([.ref hm, .int (nI k), .int (nI v), .int (nI g)]) ++ List.replicate (9 - (lg_sl ([.ref hm, .int (nI k), .int (nI v), .int (nI g)])).length) Slot.unset).toArray = ls at hl ⊢
  have hl : lv_has ls 9 [(0, .ref hm), (1, .int (nI k)), (2, .int (nI v)), (3, .int (nI g))] := hl
  have gpl := plc_le M
  refine lv_aload_n hx hb d_Mo_table_0 rfl (lv_at hl 0 rfl) ?_
  refine pr_call (va_runV (As := []) (rest := []) ⟨hx, hb, hml, hown, hts⟩ (c_Mo_current l dC dI cI (hm := hm) (sc := sc) (hw := hw) (cn := cn) (fu := fu) (lf := lf) (dd := dd) (dn := dn) (rn := rn) (tr := tr) (lg := lg) (he := he) (me := me) (hd := hd) (hen := hen) (hnd := hnd) (M := M) ) ⟨callB_of 0 hts (gd kw_533) rfl rfl rfl (hts _ kw_41) (hts _ kw_530) (by decide +kernel) ⟨Nat.le_of_ble_eq_true rfl, Nat.le_of_ble_eq_true rfl⟩, (hts _ kw_532), (hts _ kw_26)⟩ ⟨fun a U g mk q => by obtain ⟨q0, qP, qK⟩ := q; exact ⟨q0, qP, qK.call⟩, va_recv hK hP (ci := 3) rfl (q0 := 0) rfl, fun U hU hW => ⟨rfl, by rw [hU]; exact hP.sub [0, 1] rfl, hKN.warm hW⟩⟩ rfl rfl hl.1 rfl (lv_room (Nat.le_of_ble_eq_true rfl)) d_Mo_table_1 ⟨Nat.zero_le _, Nat.zero_le _⟩) ?_
  rcases cur_cases M with hc | hc | hc
  · refine tp hc ?_
    refine lv_istore (lv' := [(4, .int (-1)), (0, .ref hm), (1, .int (nI k)), (2, .int (nI v)), (3, .int (nI g))]) hx hb d_Mo_table_4 hl (by decide) rfl (fun ls hl => ?_)
    refine lv_iconst (v := (nI 1)) hx hb d_Mo_table_6 (by decide) ?_
    refine lv_iload hx hb d_Mo_table_7 (lv_at hl 0 rfl) ?_
    refine lv_if_ge (tgt := 16) hx hb d_Mo_table_9 (by decide) (fun h_1 => ?_) (fun h_1 => ?_)
    · exact absurd h_1 (by decide)
    · refine lv_iconst (v := (nI 0)) hx hb d_Mo_table_12 (by decide) ?_
      refine lv_goto (tgt := 28) hx hb d_Mo_table_13 (by decide) ?_
      refine lv_iadd hx hb d_Mo_table_28 ?_
      refine tp (y := (nI 1)) (by decide) ?_
      refine tp (y := srl M) (srl_m hc) ?_
      refine lv_istore (lv' := [(5, .int (srl M)), (4, .int (-1)), (0, .ref hm), (1, .int (nI k)), (2, .int (nI v)), (3, .int (nI g))]) hx hb d_Mo_table_29 hl (by decide) rfl (fun ls hl => ?_)
      refine lv_aload_n hx hb d_Mo_table_31 rfl (lv_at hl 2 rfl) ?_
      refine lv_iconst (v := (nI 1)) hx hb d_Mo_table_32 (by decide) ?_
      refine lv_iload_n hx hb d_Mo_table_33 rfl (lv_at hl 3 rfl) ?_
      refine lv_isub hx hb d_Mo_table_34 ?_
      refine tp (pk_sub (by omega)) ?_
      refine pr_call (va_runV (As := [.int (nI (1 - k))]) (rest := []) ⟨hx, hb, hml, hown, hts⟩ (c_Mo_state l dC dI cI (hm := hm) (v := (nI (1 - k))) (sc := sc) (hw := hw) (cn := cn) (fu := fu) (lf := lf) (dd := dd) (dn := dn) (rn := rn) (tr := tr) (lg := lg) (he := he) (me := me) (hd := hd) (hen := hen) (hnd := hnd) (M := M) ) ⟨callB_of 1 hts (gd kw_541) rfl rfl rfl (hts _ kw_41) (hts _ kw_551) (by decide +kernel) ⟨Nat.le_of_ble_eq_true rfl, Nat.le_of_ble_eq_true rfl⟩, (hts _ kw_539), (hts _ kw_540)⟩ ⟨fun a U g mk q => by obtain ⟨q0, qP, qK⟩ := q; exact ⟨q0, qP, qK.call⟩, va_recv hK hP (ci := 3) rfl (q0 := 0) rfl, fun U hU hW => ⟨rfl, by rw [hU]; exact hP.sub [0, 1] rfl, hKN.warm hW⟩⟩ rfl rfl hl.1 rfl (lv_room (Nat.le_of_ble_eq_true rfl)) d_Mo_table_35 ⟨Nat.zero_le _, Nat.zero_le _⟩) ?_
      refine tp (sta_n (by omega)) ?_
      refine lv_istore (lv' := [(6, .int (nI (stt (ety M) (1 - k)))), (5, .int (srl M)), (4, .int (-1)), (0, .ref hm), (1, .int (nI k)), (2, .int (nI v)), (3, .int (nI g))]) hx hb d_Mo_table_38 hl (by decide) rfl (fun ls hl => ?_)
      refine lv_iload_n hx hb d_Mo_table_40 rfl (lv_at hl 6 rfl) ?_
      refine lv_iload_n hx hb d_Mo_table_41 rfl (lv_at hl 4 rfl) ?_
      refine nz_ne (tgt := 57) hx hb d_Mo_table_42 (by decide) (by omega) (fun h_2 => ?_) (fun h_2 => ?_)
      · refine lv_iconst (v := (nI 2)) hx hb d_Mo_table_57 (by decide) ?_
        refine lv_iload hx hb d_Mo_table_58 (lv_at hl 0 rfl) ?_
        refine lv_imul hx hb d_Mo_table_60 ?_
        refine tp (pk_mul _ _) ?_
        refine lv_bipush (v := (nI 8)) hx hb d_Mo_table_61 (by decide) ?_
        refine lv_iload_n hx hb d_Mo_table_63 rfl (lv_at hl 5 rfl) ?_
        refine lv_imul hx hb d_Mo_table_64 ?_
        refine tp (pk_mul _ _) ?_
        refine lv_iadd hx hb d_Mo_table_65 ?_
        refine tp (nI_add _ _) ?_
        refine lv_iadd hx hb d_Mo_table_66 ?_
        refine tp (nI_add _ _) ?_
        refine tp (y := nI (tbe k v g (stt (ety M) (1 - k)))) (by rw [tbe, if_neg h_2]) ?_
        refine lv_istore (lv' := [(7, .int (nI (tbe k v g (stt (ety M) (1 - k))))), (6, .int (nI (stt (ety M) (1 - k)))), (5, .int (srl M)), (4, .int (-1)), (0, .ref hm), (1, .int (nI k)), (2, .int (nI v)), (3, .int (nI g))]) hx hb d_Mo_table_67 hl (by decide) rfl (fun ls hl => ?_)
        refine lv_iload hx hb d_Mo_table_69 (lv_at hl 3 rfl) ?_
        refine lv_if_ne (tgt := 79) hx hb d_Mo_table_71 (by decide) (fun h_3 => ?_) (fun h_3 => ?_)
        · refine lv_bipush (v := (nI 34)) hx hb d_Mo_table_79 (by decide) ?_
          refine tp (y := nI (plc M)) (plc_m hc) ?_
          refine lv_istore (lv' := [(8, .int (nI (plc M))), (7, .int (nI (tbe k v g (stt (ety M) (1 - k))))), (6, .int (nI (stt (ety M) (1 - k)))), (5, .int (srl M)), (4, .int (-1)), (0, .ref hm), (1, .int (nI k)), (2, .int (nI v)), (3, .int (nI g))]) hx hb d_Mo_table_81 hl (by decide) rfl (fun ls hl => ?_)
          refine lv_aload_n hx hb d_Mo_table_83 rfl (lv_at hl 5 rfl) ?_
          refine lv_iload hx hb d_Mo_table_84 (lv_at hl 0 rfl) ?_
          refine lv_iload hx hb d_Mo_table_86 (lv_at hl 3 rfl) ?_
          have hPc := hP.sub (ws' := [(hm, .inr (3, [.int sc, .ref hw, .int (nI cn), .int (nI fu), .int lf, .int (bI dd), .int dn, .int rn, .int (bI tr), .int (nI lg), .ref he, .int me, .ref hd, .ref hen, .ref hnd])), (hw, .inl (cI, 160, .inl M))]) [0, 1] rfl
          have hDc := hD.sub (ws' := [(hm, .inr (3, [.int sc, .ref hw, .int (nI cn), .int (nI fu), .int lf, .int (bI dd), .int dn, .int rn, .int (bI tr), .int (nI lg), .ref he, .int me, .ref hd, .ref hen, .ref hnd])), (hw, .inl (cI, 160, .inl M))]) [0, 1] (by decide) rfl
          have hFc := va_free (wc := [(hm, .inr (3, [.int sc, .ref hw, .int (nI cn), .int (nI fu), .int lf, .int (bI dd), .int dn, .int rn, .int (bI tr), .int (nI lg), .ref he, .int me, .ref hd, .ref hen, .ref hnd])), (hw, .inl (cI, 160, .inl M))]) hD hS hA [0, 1] rfl
          refine va_callv (va_runV (As := [.int (nI (plc M)), .int (srl M)]) (rest := []) ⟨hx, hb, hml, hown, hts⟩ (c_Mo_put l dC dI cI (hm := hm) (k := plc M) (x := srl M) (sc := sc) (hw := hw) (cn := cn) (fu := fu) (lf := lf) (dd := dd) (dn := dn) (rn := rn) (tr := tr) (lg := lg) (he := he) (me := me) (hd := hd) (hen := hen) (hnd := hnd) (M := M) (hk := (by omega)) (sz := s.heap.size)) ⟨callB_of 2 hts (gd kw_555) rfl rfl rfl (hts _ kw_41) (hts _ kw_552) (by decide +kernel) ⟨Nat.le_of_ble_eq_true rfl, Nat.le_of_ble_eq_true rfl⟩, (hts _ kw_554), (hts _ kw_29)⟩ ⟨fun a U g mk q => by obtain ⟨q0, q1, qP, qK, qD⟩ := q; exact ⟨q0, q1, qP, qK.call, qD⟩, va_recv hK hP (ci := 3) rfl (q0 := 0) rfl, fun U hU hW => ⟨rfl, by rw [hU], by rw [hU]; exact hPc, hKN.warm hW, hDc.weaken (fun _ _ _ _ => trivial)⟩⟩ rfl rfl hl.1 rfl (lv_room (Nat.le_of_ble_eq_true rfl)) d_Mo_table_88 ⟨Nat.zero_le _, Nat.zero_le _⟩) hS (fun q _ h => hFc q h) hFc (fun u t H1 locs zt zvm zw zB zz zk hS => ?_)
          obtain ⟨M_4, dd_4, dn_4, lf_4⟩ := u
          have hu_4 := zw
          obtain ⟨hP1, hD1⟩ := zB
          rw [zt] at hP1
          have hP1 : va_P (dC, dI) classes [(hm, .inr (3, [.int sc, .ref hw, .int (nI cn), .int (nI fu), .int lf_4, .int (bI dd_4), .int dn_4, .int rn, .int (bI tr), .int (nI lg), .ref he, .int me, .ref hd, .ref hen, .ref hnd])), (hw, .inl (cI, 160, .inl M_4))] H1 := hP1
          obtain ⟨hP, hD⟩ := va_join (wc := [(hm, .inr (3, [.int sc, .ref hw, .int (nI cn), .int (nI fu), .int lf, .int (bI dd), .int dn, .int rn, .int (bI tr), .int (nI lg), .ref he, .int me, .ref hd, .ref hen, .ref hnd])), (hw, .inl (cI, 160, .inl M))]) (wr := []) (w1 := [(hm, .inr (3, [.int sc, .ref hw, .int (nI cn), .int (nI fu), .int lf_4, .int (bI dd_4), .int dn_4, .int rn, .int (bI tr), .int (nI lg), .ref he, .int me, .ref hd, .ref hen, .ref hnd])), (hw, .inl (cI, 160, .inl M_4))]) hP hD [0, 1] [] rfl rfl (by decide) (by decide) zk hFc hP1 hD1
          generalize H1 = H at hP hS ⊢
          have hP : va_P (dC, dI) classes [(hm, .inr (3, [.int sc, .ref hw, .int (nI cn), .int (nI fu), .int lf_4, .int (bI dd_4), .int dn_4, .int rn, .int (bI tr), .int (nI lg), .ref he, .int me, .ref hd, .ref hen, .ref hnd])), (hw, .inl (cI, 160, .inl M_4))] H := hP.sub [0, 1] rfl
          have hD : va_D A [(hm, .inr (3, [.int sc, .ref hw, .int (nI cn), .int (nI fu), .int lf_4, .int (bI dd_4), .int dn_4, .int rn, .int (bI tr), .int (nI lg), .ref he, .int me, .ref hd, .ref hen, .ref hnd])), (hw, .inl (cI, 160, .inl M_4))] := hD.sub [0, 1] (by decide) rfl
          clear hPc hDc hFc hP1 hD1 zk zz zvm zt
          refine lv_aload_n hx hb d_Mo_table_91 rfl (lv_at hl 5 rfl) ?_
          refine lv_iload hx hb d_Mo_table_92 (lv_at hl 0 rfl) ?_
          refine lv_iconst (v := (nI 1)) hx hb d_Mo_table_94 (by decide) ?_
          refine lv_iadd hx hb d_Mo_table_95 ?_
          refine tp (nI_add _ _) ?_
          refine lv_iload hx hb d_Mo_table_96 (lv_at hl 1 rfl) ?_
          have hPc := hP.sub (ws' := [(hm, .inr (3, [.int sc, .ref hw, .int (nI cn), .int (nI fu), .int lf_4, .int (bI dd_4), .int dn_4, .int rn, .int (bI tr), .int (nI lg), .ref he, .int me, .ref hd, .ref hen, .ref hnd])), (hw, .inl (cI, 160, .inl M_4))]) [0, 1] rfl
          have hDc := hD.sub (ws' := [(hm, .inr (3, [.int sc, .ref hw, .int (nI cn), .int (nI fu), .int lf_4, .int (bI dd_4), .int dn_4, .int rn, .int (bI tr), .int (nI lg), .ref he, .int me, .ref hd, .ref hen, .ref hnd])), (hw, .inl (cI, 160, .inl M_4))]) [0, 1] (by decide) rfl
          have hFc := va_free (wc := [(hm, .inr (3, [.int sc, .ref hw, .int (nI cn), .int (nI fu), .int lf_4, .int (bI dd_4), .int dn_4, .int rn, .int (bI tr), .int (nI lg), .ref he, .int me, .ref hd, .ref hen, .ref hnd])), (hw, .inl (cI, 160, .inl M_4))]) hD hS hA [0, 1] rfl
          refine va_callv (va_runV (As := [.int (nI ((plc M) + 1)), .int (nI (tbe k v g (stt (ety M) (1 - k))))]) (rest := []) ⟨hx, hb, hml, hown, hts⟩ (c_Mo_put l dC dI cI (hm := hm) (k := (plc M) + 1) (x := (nI (tbe k v g (stt (ety M) (1 - k))))) (sc := sc) (hw := hw) (cn := cn) (fu := fu) (lf := lf_4) (dd := dd_4) (dn := dn_4) (rn := rn) (tr := tr) (lg := lg) (he := he) (me := me) (hd := hd) (hen := hen) (hnd := hnd) (M := M_4) (hk := (by omega)) (sz := H.size)) ⟨callB_of 2 hts (gd kw_555) rfl rfl rfl (hts _ kw_41) (hts _ kw_552) (by decide +kernel) ⟨Nat.le_of_ble_eq_true rfl, Nat.le_of_ble_eq_true rfl⟩, (hts _ kw_554), (hts _ kw_29)⟩ ⟨fun a U g mk q => by obtain ⟨q0, q1, qP, qK, qD⟩ := q; exact ⟨q0, q1, qP, qK.call, qD⟩, va_recv hK hP (ci := 3) rfl (q0 := 0) rfl, fun U hU hW => ⟨rfl, by rw [hU], by rw [hU]; exact hPc, hKN.warm hW, hDc.weaken (fun _ _ _ _ => trivial)⟩⟩ rfl rfl hl.1 rfl (lv_room (Nat.le_of_ble_eq_true rfl)) d_Mo_table_98 ⟨Nat.zero_le _, Nat.zero_le _⟩) hS (fun q _ h => hFc q h) hFc (fun u t H1 locs zt zvm zw zB zz zk hS => ?_)
          obtain ⟨M_5, dd_5, dn_5, lf_5⟩ := u
          have hu_5 := zw
          obtain ⟨hP1, hD1⟩ := zB
          rw [zt] at hP1
          have hP1 : va_P (dC, dI) classes [(hm, .inr (3, [.int sc, .ref hw, .int (nI cn), .int (nI fu), .int lf_5, .int (bI dd_5), .int dn_5, .int rn, .int (bI tr), .int (nI lg), .ref he, .int me, .ref hd, .ref hen, .ref hnd])), (hw, .inl (cI, 160, .inl M_5))] H1 := hP1
          obtain ⟨hP, hD⟩ := va_join (wc := [(hm, .inr (3, [.int sc, .ref hw, .int (nI cn), .int (nI fu), .int lf_4, .int (bI dd_4), .int dn_4, .int rn, .int (bI tr), .int (nI lg), .ref he, .int me, .ref hd, .ref hen, .ref hnd])), (hw, .inl (cI, 160, .inl M_4))]) (wr := []) (w1 := [(hm, .inr (3, [.int sc, .ref hw, .int (nI cn), .int (nI fu), .int lf_5, .int (bI dd_5), .int dn_5, .int rn, .int (bI tr), .int (nI lg), .ref he, .int me, .ref hd, .ref hen, .ref hnd])), (hw, .inl (cI, 160, .inl M_5))]) hP hD [0, 1] [] rfl rfl (by decide) (by decide) zk hFc hP1 hD1
          generalize H1 = H at hP hS ⊢
          have hP : va_P (dC, dI) classes [(hm, .inr (3, [.int sc, .ref hw, .int (nI cn), .int (nI fu), .int lf_5, .int (bI dd_5), .int dn_5, .int rn, .int (bI tr), .int (nI lg), .ref he, .int me, .ref hd, .ref hen, .ref hnd])), (hw, .inl (cI, 160, .inl M_5))] H := hP.sub [0, 1] rfl
          have hD : va_D A [(hm, .inr (3, [.int sc, .ref hw, .int (nI cn), .int (nI fu), .int lf_5, .int (bI dd_5), .int dn_5, .int rn, .int (bI tr), .int (nI lg), .ref he, .int me, .ref hd, .ref hen, .ref hnd])), (hw, .inl (cI, 160, .inl M_5))] := hD.sub [0, 1] (by decide) rfl
          clear hPc hDc hFc hP1 hD1 zk zz zvm zt
          refine lv_aload_n hx hb d_Mo_table_101 rfl (lv_at hl 5 rfl) ?_
          refine lv_iload hx hb d_Mo_table_102 (lv_at hl 0 rfl) ?_
          refine lv_iconst (v := (nI 2)) hx hb d_Mo_table_104 (by decide) ?_
          refine lv_iadd hx hb d_Mo_table_105 ?_
          refine tp (nI_add _ _) ?_
          refine lv_iload hx hb d_Mo_table_106 (lv_at hl 3 rfl) ?_
          refine lv_iload hx hb d_Mo_table_108 (lv_at hl 1 rfl) ?_
          refine pr_call (va_runS (As := [.int (srl M), .int (nI (tbe k v g (stt (ety M) (1 - k))))]) (rest := [.int (nI ((plc M) + 2)), .ref hm]) ⟨hx, hb, hml, hown, hts⟩ (c_Mo_check l dC dI cI (a := srl M) (b := (nI (tbe k v g (stt (ety M) (1 - k))))) ) ⟨callB_of 2 hts (gd kw_438) rfl rfl rfl (hts _ kw_41) (hts _ kw_436) (by decide +kernel) ⟨Nat.le_of_ble_eq_true rfl, Nat.le_of_ble_eq_true rfl⟩, (hts _ kw_437)⟩ ⟨fun a U g mk q => by obtain ⟨q0, qP, qK⟩ := q; exact ⟨q0, qP, qK.call⟩, fun U hU hW => ⟨rfl, by rw [hU]; exact hP.sub [] rfl, hKN.warm hW⟩⟩ rfl rfl hl.1 rfl (lv_room (Nat.le_of_ble_eq_true rfl)) d_Mo_table_110 ⟨Nat.zero_le _, Nat.zero_le _⟩) ?_
          have hPc := hP.sub (ws' := [(hm, .inr (3, [.int sc, .ref hw, .int (nI cn), .int (nI fu), .int lf_5, .int (bI dd_5), .int dn_5, .int rn, .int (bI tr), .int (nI lg), .ref he, .int me, .ref hd, .ref hen, .ref hnd])), (hw, .inl (cI, 160, .inl M_5))]) [0, 1] rfl
          have hDc := hD.sub (ws' := [(hm, .inr (3, [.int sc, .ref hw, .int (nI cn), .int (nI fu), .int lf_5, .int (bI dd_5), .int dn_5, .int rn, .int (bI tr), .int (nI lg), .ref he, .int me, .ref hd, .ref hen, .ref hnd])), (hw, .inl (cI, 160, .inl M_5))]) [0, 1] (by decide) rfl
          have hFc := va_free (wc := [(hm, .inr (3, [.int sc, .ref hw, .int (nI cn), .int (nI fu), .int lf_5, .int (bI dd_5), .int dn_5, .int rn, .int (bI tr), .int (nI lg), .ref he, .int me, .ref hd, .ref hen, .ref hnd])), (hw, .inl (cI, 160, .inl M_5))]) hD hS hA [0, 1] rfl
          refine va_callv (va_runV (As := [.int (nI ((plc M) + 2)), .int (ck (srl M) (nI (tbe k v g (stt (ety M) (1 - k)))))]) (rest := []) ⟨hx, hb, hml, hown, hts⟩ (c_Mo_put l dC dI cI (hm := hm) (k := (plc M) + 2) (x := ck (srl M) (nI (tbe k v g (stt (ety M) (1 - k))))) (sc := sc) (hw := hw) (cn := cn) (fu := fu) (lf := lf_5) (dd := dd_5) (dn := dn_5) (rn := rn) (tr := tr) (lg := lg) (he := he) (me := me) (hd := hd) (hen := hen) (hnd := hnd) (M := M_5) (hk := (by omega)) (sz := H.size)) ⟨callB_of 2 hts (gd kw_555) rfl rfl rfl (hts _ kw_41) (hts _ kw_552) (by decide +kernel) ⟨Nat.le_of_ble_eq_true rfl, Nat.le_of_ble_eq_true rfl⟩, (hts _ kw_554), (hts _ kw_29)⟩ ⟨fun a U g mk q => by obtain ⟨q0, q1, qP, qK, qD⟩ := q; exact ⟨q0, q1, qP, qK.call, qD⟩, va_recv hK hP (ci := 3) rfl (q0 := 0) rfl, fun U hU hW => ⟨rfl, by rw [hU], by rw [hU]; exact hPc, hKN.warm hW, hDc.weaken (fun _ _ _ _ => trivial)⟩⟩ rfl rfl hl.1 rfl (lv_room (Nat.le_of_ble_eq_true rfl)) d_Mo_table_113 ⟨Nat.zero_le _, Nat.zero_le _⟩) hS (fun q _ h => hFc q h) hFc (fun u t H1 locs zt zvm zw zB zz zk hS => ?_)
          obtain ⟨M_6, dd_6, dn_6, lf_6⟩ := u
          have hu_6 := zw
          obtain ⟨hP1, hD1⟩ := zB
          rw [zt] at hP1
          have hP1 : va_P (dC, dI) classes [(hm, .inr (3, [.int sc, .ref hw, .int (nI cn), .int (nI fu), .int lf_6, .int (bI dd_6), .int dn_6, .int rn, .int (bI tr), .int (nI lg), .ref he, .int me, .ref hd, .ref hen, .ref hnd])), (hw, .inl (cI, 160, .inl M_6))] H1 := hP1
          obtain ⟨hP, hD⟩ := va_join (wc := [(hm, .inr (3, [.int sc, .ref hw, .int (nI cn), .int (nI fu), .int lf_5, .int (bI dd_5), .int dn_5, .int rn, .int (bI tr), .int (nI lg), .ref he, .int me, .ref hd, .ref hen, .ref hnd])), (hw, .inl (cI, 160, .inl M_5))]) (wr := []) (w1 := [(hm, .inr (3, [.int sc, .ref hw, .int (nI cn), .int (nI fu), .int lf_6, .int (bI dd_6), .int dn_6, .int rn, .int (bI tr), .int (nI lg), .ref he, .int me, .ref hd, .ref hen, .ref hnd])), (hw, .inl (cI, 160, .inl M_6))]) hP hD [0, 1] [] rfl rfl (by decide) (by decide) zk hFc hP1 hD1
          generalize H1 = H at hP hS ⊢
          have hP : va_P (dC, dI) classes [(hm, .inr (3, [.int sc, .ref hw, .int (nI cn), .int (nI fu), .int lf_6, .int (bI dd_6), .int dn_6, .int rn, .int (bI tr), .int (nI lg), .ref he, .int me, .ref hd, .ref hen, .ref hnd])), (hw, .inl (cI, 160, .inl M_6))] H := hP.sub [0, 1] rfl
          have hD : va_D A [(hm, .inr (3, [.int sc, .ref hw, .int (nI cn), .int (nI fu), .int lf_6, .int (bI dd_6), .int dn_6, .int rn, .int (bI tr), .int (nI lg), .ref he, .int me, .ref hd, .ref hen, .ref hnd])), (hw, .inl (cI, 160, .inl M_6))] := hD.sub [0, 1] (by decide) rfl
          clear hPc hDc hFc hP1 hD1 zk zz zvm zt
          exact W.vret hx hb hr (fun t ht hW => ⟨⟨(M_6, dd_6, dn_6, lf_6), rfl, (by simp only [mTab, hu_4, hu_5, hu_6]), by rw [ht]; exact hP, hD⟩, hS.F ht⟩) hS.2.2 d_Mo_table_116
        · exact absurd h_3 (by decide)
      · refine lv_iconst (v := (nI 2)) hx hb d_Mo_table_45 (by decide) ?_
        refine lv_iload_n hx hb d_Mo_table_46 rfl (lv_at hl 5 rfl) ?_
        refine lv_imul hx hb d_Mo_table_47 ?_
        refine tp (pk_mul _ _) ?_
        refine lv_bipush (v := (nI 8)) hx hb d_Mo_table_48 (by decide) ?_
        refine lv_iload hx hb d_Mo_table_50 (lv_at hl 0 rfl) ?_
        refine lv_imul hx hb d_Mo_table_52 ?_
        refine tp (pk_mul _ _) ?_
        refine lv_iadd hx hb d_Mo_table_53 ?_
        refine tp (nI_add _ _) ?_
        refine lv_goto (tgt := 66) hx hb d_Mo_table_54 (by decide) ?_
        refine lv_iadd hx hb d_Mo_table_66 ?_
        refine tp (nI_add _ _) ?_
        refine tp (y := nI (tbe k v g (stt (ety M) (1 - k)))) (by rw [tbe, if_pos h_2]) ?_
        refine lv_istore (lv' := [(7, .int (nI (tbe k v g (stt (ety M) (1 - k))))), (6, .int (nI (stt (ety M) (1 - k)))), (5, .int (srl M)), (4, .int (-1)), (0, .ref hm), (1, .int (nI k)), (2, .int (nI v)), (3, .int (nI g))]) hx hb d_Mo_table_67 hl (by decide) rfl (fun ls hl => ?_)
        refine lv_iload hx hb d_Mo_table_69 (lv_at hl 3 rfl) ?_
        refine lv_if_ne (tgt := 79) hx hb d_Mo_table_71 (by decide) (fun h_7 => ?_) (fun h_7 => ?_)
        · refine lv_bipush (v := (nI 34)) hx hb d_Mo_table_79 (by decide) ?_
          refine tp (y := nI (plc M)) (plc_m hc) ?_
          refine lv_istore (lv' := [(8, .int (nI (plc M))), (7, .int (nI (tbe k v g (stt (ety M) (1 - k))))), (6, .int (nI (stt (ety M) (1 - k)))), (5, .int (srl M)), (4, .int (-1)), (0, .ref hm), (1, .int (nI k)), (2, .int (nI v)), (3, .int (nI g))]) hx hb d_Mo_table_81 hl (by decide) rfl (fun ls hl => ?_)
          refine lv_aload_n hx hb d_Mo_table_83 rfl (lv_at hl 5 rfl) ?_
          refine lv_iload hx hb d_Mo_table_84 (lv_at hl 0 rfl) ?_
          refine lv_iload hx hb d_Mo_table_86 (lv_at hl 3 rfl) ?_
          have hPc := hP.sub (ws' := [(hm, .inr (3, [.int sc, .ref hw, .int (nI cn), .int (nI fu), .int lf, .int (bI dd), .int dn, .int rn, .int (bI tr), .int (nI lg), .ref he, .int me, .ref hd, .ref hen, .ref hnd])), (hw, .inl (cI, 160, .inl M))]) [0, 1] rfl
          have hDc := hD.sub (ws' := [(hm, .inr (3, [.int sc, .ref hw, .int (nI cn), .int (nI fu), .int lf, .int (bI dd), .int dn, .int rn, .int (bI tr), .int (nI lg), .ref he, .int me, .ref hd, .ref hen, .ref hnd])), (hw, .inl (cI, 160, .inl M))]) [0, 1] (by decide) rfl
          have hFc := va_free (wc := [(hm, .inr (3, [.int sc, .ref hw, .int (nI cn), .int (nI fu), .int lf, .int (bI dd), .int dn, .int rn, .int (bI tr), .int (nI lg), .ref he, .int me, .ref hd, .ref hen, .ref hnd])), (hw, .inl (cI, 160, .inl M))]) hD hS hA [0, 1] rfl
          refine va_callv (va_runV (As := [.int (nI (plc M)), .int (srl M)]) (rest := []) ⟨hx, hb, hml, hown, hts⟩ (c_Mo_put l dC dI cI (hm := hm) (k := plc M) (x := srl M) (sc := sc) (hw := hw) (cn := cn) (fu := fu) (lf := lf) (dd := dd) (dn := dn) (rn := rn) (tr := tr) (lg := lg) (he := he) (me := me) (hd := hd) (hen := hen) (hnd := hnd) (M := M) (hk := (by omega)) (sz := s.heap.size)) ⟨callB_of 2 hts (gd kw_555) rfl rfl rfl (hts _ kw_41) (hts _ kw_552) (by decide +kernel) ⟨Nat.le_of_ble_eq_true rfl, Nat.le_of_ble_eq_true rfl⟩, (hts _ kw_554), (hts _ kw_29)⟩ ⟨fun a U g mk q => by obtain ⟨q0, q1, qP, qK, qD⟩ := q; exact ⟨q0, q1, qP, qK.call, qD⟩, va_recv hK hP (ci := 3) rfl (q0 := 0) rfl, fun U hU hW => ⟨rfl, by rw [hU], by rw [hU]; exact hPc, hKN.warm hW, hDc.weaken (fun _ _ _ _ => trivial)⟩⟩ rfl rfl hl.1 rfl (lv_room (Nat.le_of_ble_eq_true rfl)) d_Mo_table_88 ⟨Nat.zero_le _, Nat.zero_le _⟩) hS (fun q _ h => hFc q h) hFc (fun u t H1 locs zt zvm zw zB zz zk hS => ?_)
          obtain ⟨M_8, dd_8, dn_8, lf_8⟩ := u
          have hu_8 := zw
          obtain ⟨hP1, hD1⟩ := zB
          rw [zt] at hP1
          have hP1 : va_P (dC, dI) classes [(hm, .inr (3, [.int sc, .ref hw, .int (nI cn), .int (nI fu), .int lf_8, .int (bI dd_8), .int dn_8, .int rn, .int (bI tr), .int (nI lg), .ref he, .int me, .ref hd, .ref hen, .ref hnd])), (hw, .inl (cI, 160, .inl M_8))] H1 := hP1
          obtain ⟨hP, hD⟩ := va_join (wc := [(hm, .inr (3, [.int sc, .ref hw, .int (nI cn), .int (nI fu), .int lf, .int (bI dd), .int dn, .int rn, .int (bI tr), .int (nI lg), .ref he, .int me, .ref hd, .ref hen, .ref hnd])), (hw, .inl (cI, 160, .inl M))]) (wr := []) (w1 := [(hm, .inr (3, [.int sc, .ref hw, .int (nI cn), .int (nI fu), .int lf_8, .int (bI dd_8), .int dn_8, .int rn, .int (bI tr), .int (nI lg), .ref he, .int me, .ref hd, .ref hen, .ref hnd])), (hw, .inl (cI, 160, .inl M_8))]) hP hD [0, 1] [] rfl rfl (by decide) (by decide) zk hFc hP1 hD1
          generalize H1 = H at hP hS ⊢
          have hP : va_P (dC, dI) classes [(hm, .inr (3, [.int sc, .ref hw, .int (nI cn), .int (nI fu), .int lf_8, .int (bI dd_8), .int dn_8, .int rn, .int (bI tr), .int (nI lg), .ref he, .int me, .ref hd, .ref hen, .ref hnd])), (hw, .inl (cI, 160, .inl M_8))] H := hP.sub [0, 1] rfl
          have hD : va_D A [(hm, .inr (3, [.int sc, .ref hw, .int (nI cn), .int (nI fu), .int lf_8, .int (bI dd_8), .int dn_8, .int rn, .int (bI tr), .int (nI lg), .ref he, .int me, .ref hd, .ref hen, .ref hnd])), (hw, .inl (cI, 160, .inl M_8))] := hD.sub [0, 1] (by decide) rfl
          clear hPc hDc hFc hP1 hD1 zk zz zvm zt
          refine lv_aload_n hx hb d_Mo_table_91 rfl (lv_at hl 5 rfl) ?_
          refine lv_iload hx hb d_Mo_table_92 (lv_at hl 0 rfl) ?_
          refine lv_iconst (v := (nI 1)) hx hb d_Mo_table_94 (by decide) ?_
          refine lv_iadd hx hb d_Mo_table_95 ?_
          refine tp (nI_add _ _) ?_
          refine lv_iload hx hb d_Mo_table_96 (lv_at hl 1 rfl) ?_
          have hPc := hP.sub (ws' := [(hm, .inr (3, [.int sc, .ref hw, .int (nI cn), .int (nI fu), .int lf_8, .int (bI dd_8), .int dn_8, .int rn, .int (bI tr), .int (nI lg), .ref he, .int me, .ref hd, .ref hen, .ref hnd])), (hw, .inl (cI, 160, .inl M_8))]) [0, 1] rfl
          have hDc := hD.sub (ws' := [(hm, .inr (3, [.int sc, .ref hw, .int (nI cn), .int (nI fu), .int lf_8, .int (bI dd_8), .int dn_8, .int rn, .int (bI tr), .int (nI lg), .ref he, .int me, .ref hd, .ref hen, .ref hnd])), (hw, .inl (cI, 160, .inl M_8))]) [0, 1] (by decide) rfl
          have hFc := va_free (wc := [(hm, .inr (3, [.int sc, .ref hw, .int (nI cn), .int (nI fu), .int lf_8, .int (bI dd_8), .int dn_8, .int rn, .int (bI tr), .int (nI lg), .ref he, .int me, .ref hd, .ref hen, .ref hnd])), (hw, .inl (cI, 160, .inl M_8))]) hD hS hA [0, 1] rfl
          refine va_callv (va_runV (As := [.int (nI ((plc M) + 1)), .int (nI (tbe k v g (stt (ety M) (1 - k))))]) (rest := []) ⟨hx, hb, hml, hown, hts⟩ (c_Mo_put l dC dI cI (hm := hm) (k := (plc M) + 1) (x := (nI (tbe k v g (stt (ety M) (1 - k))))) (sc := sc) (hw := hw) (cn := cn) (fu := fu) (lf := lf_8) (dd := dd_8) (dn := dn_8) (rn := rn) (tr := tr) (lg := lg) (he := he) (me := me) (hd := hd) (hen := hen) (hnd := hnd) (M := M_8) (hk := (by omega)) (sz := H.size)) ⟨callB_of 2 hts (gd kw_555) rfl rfl rfl (hts _ kw_41) (hts _ kw_552) (by decide +kernel) ⟨Nat.le_of_ble_eq_true rfl, Nat.le_of_ble_eq_true rfl⟩, (hts _ kw_554), (hts _ kw_29)⟩ ⟨fun a U g mk q => by obtain ⟨q0, q1, qP, qK, qD⟩ := q; exact ⟨q0, q1, qP, qK.call, qD⟩, va_recv hK hP (ci := 3) rfl (q0 := 0) rfl, fun U hU hW => ⟨rfl, by rw [hU], by rw [hU]; exact hPc, hKN.warm hW, hDc.weaken (fun _ _ _ _ => trivial)⟩⟩ rfl rfl hl.1 rfl (lv_room (Nat.le_of_ble_eq_true rfl)) d_Mo_table_98 ⟨Nat.zero_le _, Nat.zero_le _⟩) hS (fun q _ h => hFc q h) hFc (fun u t H1 locs zt zvm zw zB zz zk hS => ?_)
          obtain ⟨M_9, dd_9, dn_9, lf_9⟩ := u
          have hu_9 := zw
          obtain ⟨hP1, hD1⟩ := zB
          rw [zt] at hP1
          have hP1 : va_P (dC, dI) classes [(hm, .inr (3, [.int sc, .ref hw, .int (nI cn), .int (nI fu), .int lf_9, .int (bI dd_9), .int dn_9, .int rn, .int (bI tr), .int (nI lg), .ref he, .int me, .ref hd, .ref hen, .ref hnd])), (hw, .inl (cI, 160, .inl M_9))] H1 := hP1
          obtain ⟨hP, hD⟩ := va_join (wc := [(hm, .inr (3, [.int sc, .ref hw, .int (nI cn), .int (nI fu), .int lf_8, .int (bI dd_8), .int dn_8, .int rn, .int (bI tr), .int (nI lg), .ref he, .int me, .ref hd, .ref hen, .ref hnd])), (hw, .inl (cI, 160, .inl M_8))]) (wr := []) (w1 := [(hm, .inr (3, [.int sc, .ref hw, .int (nI cn), .int (nI fu), .int lf_9, .int (bI dd_9), .int dn_9, .int rn, .int (bI tr), .int (nI lg), .ref he, .int me, .ref hd, .ref hen, .ref hnd])), (hw, .inl (cI, 160, .inl M_9))]) hP hD [0, 1] [] rfl rfl (by decide) (by decide) zk hFc hP1 hD1
          generalize H1 = H at hP hS ⊢
          have hP : va_P (dC, dI) classes [(hm, .inr (3, [.int sc, .ref hw, .int (nI cn), .int (nI fu), .int lf_9, .int (bI dd_9), .int dn_9, .int rn, .int (bI tr), .int (nI lg), .ref he, .int me, .ref hd, .ref hen, .ref hnd])), (hw, .inl (cI, 160, .inl M_9))] H := hP.sub [0, 1] rfl
          have hD : va_D A [(hm, .inr (3, [.int sc, .ref hw, .int (nI cn), .int (nI fu), .int lf_9, .int (bI dd_9), .int dn_9, .int rn, .int (bI tr), .int (nI lg), .ref he, .int me, .ref hd, .ref hen, .ref hnd])), (hw, .inl (cI, 160, .inl M_9))] := hD.sub [0, 1] (by decide) rfl
          clear hPc hDc hFc hP1 hD1 zk zz zvm zt
          refine lv_aload_n hx hb d_Mo_table_101 rfl (lv_at hl 5 rfl) ?_
          refine lv_iload hx hb d_Mo_table_102 (lv_at hl 0 rfl) ?_
          refine lv_iconst (v := (nI 2)) hx hb d_Mo_table_104 (by decide) ?_
          refine lv_iadd hx hb d_Mo_table_105 ?_
          refine tp (nI_add _ _) ?_
          refine lv_iload hx hb d_Mo_table_106 (lv_at hl 3 rfl) ?_
          refine lv_iload hx hb d_Mo_table_108 (lv_at hl 1 rfl) ?_
          refine pr_call (va_runS (As := [.int (srl M), .int (nI (tbe k v g (stt (ety M) (1 - k))))]) (rest := [.int (nI ((plc M) + 2)), .ref hm]) ⟨hx, hb, hml, hown, hts⟩ (c_Mo_check l dC dI cI (a := srl M) (b := (nI (tbe k v g (stt (ety M) (1 - k))))) ) ⟨callB_of 2 hts (gd kw_438) rfl rfl rfl (hts _ kw_41) (hts _ kw_436) (by decide +kernel) ⟨Nat.le_of_ble_eq_true rfl, Nat.le_of_ble_eq_true rfl⟩, (hts _ kw_437)⟩ ⟨fun a U g mk q => by obtain ⟨q0, qP, qK⟩ := q; exact ⟨q0, qP, qK.call⟩, fun U hU hW => ⟨rfl, by rw [hU]; exact hP.sub [] rfl, hKN.warm hW⟩⟩ rfl rfl hl.1 rfl (lv_room (Nat.le_of_ble_eq_true rfl)) d_Mo_table_110 ⟨Nat.zero_le _, Nat.zero_le _⟩) ?_
          have hPc := hP.sub (ws' := [(hm, .inr (3, [.int sc, .ref hw, .int (nI cn), .int (nI fu), .int lf_9, .int (bI dd_9), .int dn_9, .int rn, .int (bI tr), .int (nI lg), .ref he, .int me, .ref hd, .ref hen, .ref hnd])), (hw, .inl (cI, 160, .inl M_9))]) [0, 1] rfl
          have hDc := hD.sub (ws' := [(hm, .inr (3, [.int sc, .ref hw, .int (nI cn), .int (nI fu), .int lf_9, .int (bI dd_9), .int dn_9, .int rn, .int (bI tr), .int (nI lg), .ref he, .int me, .ref hd, .ref hen, .ref hnd])), (hw, .inl (cI, 160, .inl M_9))]) [0, 1] (by decide) rfl
          have hFc := va_free (wc := [(hm, .inr (3, [.int sc, .ref hw, .int (nI cn), .int (nI fu), .int lf_9, .int (bI dd_9), .int dn_9, .int rn, .int (bI tr), .int (nI lg), .ref he, .int me, .ref hd, .ref hen, .ref hnd])), (hw, .inl (cI, 160, .inl M_9))]) hD hS hA [0, 1] rfl
          refine va_callv (va_runV (As := [.int (nI ((plc M) + 2)), .int (ck (srl M) (nI (tbe k v g (stt (ety M) (1 - k)))))]) (rest := []) ⟨hx, hb, hml, hown, hts⟩ (c_Mo_put l dC dI cI (hm := hm) (k := (plc M) + 2) (x := ck (srl M) (nI (tbe k v g (stt (ety M) (1 - k))))) (sc := sc) (hw := hw) (cn := cn) (fu := fu) (lf := lf_9) (dd := dd_9) (dn := dn_9) (rn := rn) (tr := tr) (lg := lg) (he := he) (me := me) (hd := hd) (hen := hen) (hnd := hnd) (M := M_9) (hk := (by omega)) (sz := H.size)) ⟨callB_of 2 hts (gd kw_555) rfl rfl rfl (hts _ kw_41) (hts _ kw_552) (by decide +kernel) ⟨Nat.le_of_ble_eq_true rfl, Nat.le_of_ble_eq_true rfl⟩, (hts _ kw_554), (hts _ kw_29)⟩ ⟨fun a U g mk q => by obtain ⟨q0, q1, qP, qK, qD⟩ := q; exact ⟨q0, q1, qP, qK.call, qD⟩, va_recv hK hP (ci := 3) rfl (q0 := 0) rfl, fun U hU hW => ⟨rfl, by rw [hU], by rw [hU]; exact hPc, hKN.warm hW, hDc.weaken (fun _ _ _ _ => trivial)⟩⟩ rfl rfl hl.1 rfl (lv_room (Nat.le_of_ble_eq_true rfl)) d_Mo_table_113 ⟨Nat.zero_le _, Nat.zero_le _⟩) hS (fun q _ h => hFc q h) hFc (fun u t H1 locs zt zvm zw zB zz zk hS => ?_)
          obtain ⟨M_10, dd_10, dn_10, lf_10⟩ := u
          have hu_10 := zw
          obtain ⟨hP1, hD1⟩ := zB
          rw [zt] at hP1
          have hP1 : va_P (dC, dI) classes [(hm, .inr (3, [.int sc, .ref hw, .int (nI cn), .int (nI fu), .int lf_10, .int (bI dd_10), .int dn_10, .int rn, .int (bI tr), .int (nI lg), .ref he, .int me, .ref hd, .ref hen, .ref hnd])), (hw, .inl (cI, 160, .inl M_10))] H1 := hP1
          obtain ⟨hP, hD⟩ := va_join (wc := [(hm, .inr (3, [.int sc, .ref hw, .int (nI cn), .int (nI fu), .int lf_9, .int (bI dd_9), .int dn_9, .int rn, .int (bI tr), .int (nI lg), .ref he, .int me, .ref hd, .ref hen, .ref hnd])), (hw, .inl (cI, 160, .inl M_9))]) (wr := []) (w1 := [(hm, .inr (3, [.int sc, .ref hw, .int (nI cn), .int (nI fu), .int lf_10, .int (bI dd_10), .int dn_10, .int rn, .int (bI tr), .int (nI lg), .ref he, .int me, .ref hd, .ref hen, .ref hnd])), (hw, .inl (cI, 160, .inl M_10))]) hP hD [0, 1] [] rfl rfl (by decide) (by decide) zk hFc hP1 hD1
          generalize H1 = H at hP hS ⊢
          have hP : va_P (dC, dI) classes [(hm, .inr (3, [.int sc, .ref hw, .int (nI cn), .int (nI fu), .int lf_10, .int (bI dd_10), .int dn_10, .int rn, .int (bI tr), .int (nI lg), .ref he, .int me, .ref hd, .ref hen, .ref hnd])), (hw, .inl (cI, 160, .inl M_10))] H := hP.sub [0, 1] rfl
          have hD : va_D A [(hm, .inr (3, [.int sc, .ref hw, .int (nI cn), .int (nI fu), .int lf_10, .int (bI dd_10), .int dn_10, .int rn, .int (bI tr), .int (nI lg), .ref he, .int me, .ref hd, .ref hen, .ref hnd])), (hw, .inl (cI, 160, .inl M_10))] := hD.sub [0, 1] (by decide) rfl
          clear hPc hDc hFc hP1 hD1 zk zz zvm zt
          exact W.vret hx hb hr (fun t ht hW => ⟨⟨(M_10, dd_10, dn_10, lf_10), rfl, (by simp only [mTab, hu_8, hu_9, hu_10]), by rw [ht]; exact hP, hD⟩, hS.F ht⟩) hS.2.2 d_Mo_table_116
        · exact absurd h_7 (by decide)
  · refine tp hc ?_
    refine lv_istore (lv' := [(4, .int (nI 0)), (0, .ref hm), (1, .int (nI k)), (2, .int (nI v)), (3, .int (nI g))]) hx hb d_Mo_table_4 hl (by decide) rfl (fun ls hl => ?_)
    refine lv_iconst (v := (nI 1)) hx hb d_Mo_table_6 (by decide) ?_
    refine lv_iload hx hb d_Mo_table_7 (lv_at hl 0 rfl) ?_
    refine nz_ge (tgt := 16) hx hb d_Mo_table_9 (by decide) (by omega) ?_
    refine lv_aload_n hx hb d_Mo_table_16 rfl (lv_at hl 1 rfl) ?_
    refine va_get (D := (dC, dI)) (ci := 3) (v := .ref hw) (C := R_Mo) (T := F_Mo) (N := 15) hx hb hts in_Mo hown hK hP 0 rfl rfl 1 (by decide) (hts _ kw_440) (fun _ h9 => h9) rfl d_Mo_table_17 ?_
    refine lv_bipush (v := (nI 34)) hx hb d_Mo_table_20 (by decide) ?_
    refine lv_iconst (v := (nI 3)) hx hb d_Mo_table_22 (by decide) ?_
    refine lv_iload hx hb d_Mo_table_23 (lv_at hl 0 rfl) ?_
    refine lv_imul hx hb d_Mo_table_25 ?_
    refine tp (y := (nI 0)) (by decide) ?_
    refine lv_iadd hx hb d_Mo_table_26 ?_
    refine tp (y := (nI 34)) (by decide) ?_
    refine ar_ld (k := 34) hx hb hK hP 1 0 rfl rfl (by omega) (by first | decide | omega) d_Mo_table_27 ?_
    refine lv_iadd hx hb d_Mo_table_28 ?_
    refine tp (y := srl M) (srl_0 hc) ?_
    refine lv_istore (lv' := [(5, .int (srl M)), (4, .int (nI 0)), (0, .ref hm), (1, .int (nI k)), (2, .int (nI v)), (3, .int (nI g))]) hx hb d_Mo_table_29 hl (by decide) rfl (fun ls hl => ?_)
    refine lv_aload_n hx hb d_Mo_table_31 rfl (lv_at hl 2 rfl) ?_
    refine lv_iconst (v := (nI 1)) hx hb d_Mo_table_32 (by decide) ?_
    refine lv_iload_n hx hb d_Mo_table_33 rfl (lv_at hl 3 rfl) ?_
    refine lv_isub hx hb d_Mo_table_34 ?_
    refine tp (pk_sub (by omega)) ?_
    refine pr_call (va_runV (As := [.int (nI (1 - k))]) (rest := []) ⟨hx, hb, hml, hown, hts⟩ (c_Mo_state l dC dI cI (hm := hm) (v := (nI (1 - k))) (sc := sc) (hw := hw) (cn := cn) (fu := fu) (lf := lf) (dd := dd) (dn := dn) (rn := rn) (tr := tr) (lg := lg) (he := he) (me := me) (hd := hd) (hen := hen) (hnd := hnd) (M := M) ) ⟨callB_of 1 hts (gd kw_541) rfl rfl rfl (hts _ kw_41) (hts _ kw_551) (by decide +kernel) ⟨Nat.le_of_ble_eq_true rfl, Nat.le_of_ble_eq_true rfl⟩, (hts _ kw_539), (hts _ kw_540)⟩ ⟨fun a U g mk q => by obtain ⟨q0, qP, qK⟩ := q; exact ⟨q0, qP, qK.call⟩, va_recv hK hP (ci := 3) rfl (q0 := 0) rfl, fun U hU hW => ⟨rfl, by rw [hU]; exact hP.sub [0, 1] rfl, hKN.warm hW⟩⟩ rfl rfl hl.1 rfl (lv_room (Nat.le_of_ble_eq_true rfl)) d_Mo_table_35 ⟨Nat.zero_le _, Nat.zero_le _⟩) ?_
    refine tp (sta_n (by omega)) ?_
    refine lv_istore (lv' := [(6, .int (nI (stt (ety M) (1 - k)))), (5, .int (srl M)), (4, .int (nI 0)), (0, .ref hm), (1, .int (nI k)), (2, .int (nI v)), (3, .int (nI g))]) hx hb d_Mo_table_38 hl (by decide) rfl (fun ls hl => ?_)
    refine lv_iload_n hx hb d_Mo_table_40 rfl (lv_at hl 6 rfl) ?_
    refine lv_iload_n hx hb d_Mo_table_41 rfl (lv_at hl 4 rfl) ?_
    refine nz_ne (tgt := 57) hx hb d_Mo_table_42 (by decide) (by omega) (fun h_12 => ?_) (fun h_12 => ?_)
    · refine lv_iconst (v := (nI 2)) hx hb d_Mo_table_57 (by decide) ?_
      refine lv_iload hx hb d_Mo_table_58 (lv_at hl 0 rfl) ?_
      refine lv_imul hx hb d_Mo_table_60 ?_
      refine tp (pk_mul _ _) ?_
      refine lv_bipush (v := (nI 8)) hx hb d_Mo_table_61 (by decide) ?_
      refine lv_iload_n hx hb d_Mo_table_63 rfl (lv_at hl 5 rfl) ?_
      refine lv_imul hx hb d_Mo_table_64 ?_
      refine tp (pk_mul _ _) ?_
      refine lv_iadd hx hb d_Mo_table_65 ?_
      refine tp (nI_add _ _) ?_
      refine lv_iadd hx hb d_Mo_table_66 ?_
      refine tp (nI_add _ _) ?_
      refine tp (y := nI (tbe k v g (stt (ety M) (1 - k)))) (by rw [tbe, if_neg h_12]) ?_
      refine lv_istore (lv' := [(7, .int (nI (tbe k v g (stt (ety M) (1 - k))))), (6, .int (nI (stt (ety M) (1 - k)))), (5, .int (srl M)), (4, .int (nI 0)), (0, .ref hm), (1, .int (nI k)), (2, .int (nI v)), (3, .int (nI g))]) hx hb d_Mo_table_67 hl (by decide) rfl (fun ls hl => ?_)
      refine lv_iload hx hb d_Mo_table_69 (lv_at hl 3 rfl) ?_
      refine nz_ne (tgt := 79) hx hb d_Mo_table_71 (by decide) (by decide) (fun h_13 => ?_) (fun h_13 => ?_)
      · exact absurd h_13 (by decide)
      · refine lv_bipush (v := (nI 37)) hx hb d_Mo_table_74 (by decide) ?_
        refine lv_goto (tgt := 81) hx hb d_Mo_table_76 (by decide) ?_
        refine tp (y := nI (plc M)) (plc_0 hc) ?_
        refine lv_istore (lv' := [(8, .int (nI (plc M))), (7, .int (nI (tbe k v g (stt (ety M) (1 - k))))), (6, .int (nI (stt (ety M) (1 - k)))), (5, .int (srl M)), (4, .int (nI 0)), (0, .ref hm), (1, .int (nI k)), (2, .int (nI v)), (3, .int (nI g))]) hx hb d_Mo_table_81 hl (by decide) rfl (fun ls hl => ?_)
        refine lv_aload_n hx hb d_Mo_table_83 rfl (lv_at hl 5 rfl) ?_
        refine lv_iload hx hb d_Mo_table_84 (lv_at hl 0 rfl) ?_
        refine lv_iload hx hb d_Mo_table_86 (lv_at hl 3 rfl) ?_
        have hPc := hP.sub (ws' := [(hm, .inr (3, [.int sc, .ref hw, .int (nI cn), .int (nI fu), .int lf, .int (bI dd), .int dn, .int rn, .int (bI tr), .int (nI lg), .ref he, .int me, .ref hd, .ref hen, .ref hnd])), (hw, .inl (cI, 160, .inl M))]) [0, 1] rfl
        have hDc := hD.sub (ws' := [(hm, .inr (3, [.int sc, .ref hw, .int (nI cn), .int (nI fu), .int lf, .int (bI dd), .int dn, .int rn, .int (bI tr), .int (nI lg), .ref he, .int me, .ref hd, .ref hen, .ref hnd])), (hw, .inl (cI, 160, .inl M))]) [0, 1] (by decide) rfl
        have hFc := va_free (wc := [(hm, .inr (3, [.int sc, .ref hw, .int (nI cn), .int (nI fu), .int lf, .int (bI dd), .int dn, .int rn, .int (bI tr), .int (nI lg), .ref he, .int me, .ref hd, .ref hen, .ref hnd])), (hw, .inl (cI, 160, .inl M))]) hD hS hA [0, 1] rfl
        refine va_callv (va_runV (As := [.int (nI (plc M)), .int (srl M)]) (rest := []) ⟨hx, hb, hml, hown, hts⟩ (c_Mo_put l dC dI cI (hm := hm) (k := plc M) (x := srl M) (sc := sc) (hw := hw) (cn := cn) (fu := fu) (lf := lf) (dd := dd) (dn := dn) (rn := rn) (tr := tr) (lg := lg) (he := he) (me := me) (hd := hd) (hen := hen) (hnd := hnd) (M := M) (hk := (by omega)) (sz := s.heap.size)) ⟨callB_of 2 hts (gd kw_555) rfl rfl rfl (hts _ kw_41) (hts _ kw_552) (by decide +kernel) ⟨Nat.le_of_ble_eq_true rfl, Nat.le_of_ble_eq_true rfl⟩, (hts _ kw_554), (hts _ kw_29)⟩ ⟨fun a U g mk q => by obtain ⟨q0, q1, qP, qK, qD⟩ := q; exact ⟨q0, q1, qP, qK.call, qD⟩, va_recv hK hP (ci := 3) rfl (q0 := 0) rfl, fun U hU hW => ⟨rfl, by rw [hU], by rw [hU]; exact hPc, hKN.warm hW, hDc.weaken (fun _ _ _ _ => trivial)⟩⟩ rfl rfl hl.1 rfl (lv_room (Nat.le_of_ble_eq_true rfl)) d_Mo_table_88 ⟨Nat.zero_le _, Nat.zero_le _⟩) hS (fun q _ h => hFc q h) hFc (fun u t H1 locs zt zvm zw zB zz zk hS => ?_)
        obtain ⟨M_14, dd_14, dn_14, lf_14⟩ := u
        have hu_14 := zw
        obtain ⟨hP1, hD1⟩ := zB
        rw [zt] at hP1
        have hP1 : va_P (dC, dI) classes [(hm, .inr (3, [.int sc, .ref hw, .int (nI cn), .int (nI fu), .int lf_14, .int (bI dd_14), .int dn_14, .int rn, .int (bI tr), .int (nI lg), .ref he, .int me, .ref hd, .ref hen, .ref hnd])), (hw, .inl (cI, 160, .inl M_14))] H1 := hP1
        obtain ⟨hP, hD⟩ := va_join (wc := [(hm, .inr (3, [.int sc, .ref hw, .int (nI cn), .int (nI fu), .int lf, .int (bI dd), .int dn, .int rn, .int (bI tr), .int (nI lg), .ref he, .int me, .ref hd, .ref hen, .ref hnd])), (hw, .inl (cI, 160, .inl M))]) (wr := []) (w1 := [(hm, .inr (3, [.int sc, .ref hw, .int (nI cn), .int (nI fu), .int lf_14, .int (bI dd_14), .int dn_14, .int rn, .int (bI tr), .int (nI lg), .ref he, .int me, .ref hd, .ref hen, .ref hnd])), (hw, .inl (cI, 160, .inl M_14))]) hP hD [0, 1] [] rfl rfl (by decide) (by decide) zk hFc hP1 hD1
        generalize H1 = H at hP hS ⊢
        have hP : va_P (dC, dI) classes [(hm, .inr (3, [.int sc, .ref hw, .int (nI cn), .int (nI fu), .int lf_14, .int (bI dd_14), .int dn_14, .int rn, .int (bI tr), .int (nI lg), .ref he, .int me, .ref hd, .ref hen, .ref hnd])), (hw, .inl (cI, 160, .inl M_14))] H := hP.sub [0, 1] rfl
        have hD : va_D A [(hm, .inr (3, [.int sc, .ref hw, .int (nI cn), .int (nI fu), .int lf_14, .int (bI dd_14), .int dn_14, .int rn, .int (bI tr), .int (nI lg), .ref he, .int me, .ref hd, .ref hen, .ref hnd])), (hw, .inl (cI, 160, .inl M_14))] := hD.sub [0, 1] (by decide) rfl
        clear hPc hDc hFc hP1 hD1 zk zz zvm zt
        refine lv_aload_n hx hb d_Mo_table_91 rfl (lv_at hl 5 rfl) ?_
        refine lv_iload hx hb d_Mo_table_92 (lv_at hl 0 rfl) ?_
        refine lv_iconst (v := (nI 1)) hx hb d_Mo_table_94 (by decide) ?_
        refine lv_iadd hx hb d_Mo_table_95 ?_
        refine tp (nI_add _ _) ?_
        refine lv_iload hx hb d_Mo_table_96 (lv_at hl 1 rfl) ?_
        have hPc := hP.sub (ws' := [(hm, .inr (3, [.int sc, .ref hw, .int (nI cn), .int (nI fu), .int lf_14, .int (bI dd_14), .int dn_14, .int rn, .int (bI tr), .int (nI lg), .ref he, .int me, .ref hd, .ref hen, .ref hnd])), (hw, .inl (cI, 160, .inl M_14))]) [0, 1] rfl
        have hDc := hD.sub (ws' := [(hm, .inr (3, [.int sc, .ref hw, .int (nI cn), .int (nI fu), .int lf_14, .int (bI dd_14), .int dn_14, .int rn, .int (bI tr), .int (nI lg), .ref he, .int me, .ref hd, .ref hen, .ref hnd])), (hw, .inl (cI, 160, .inl M_14))]) [0, 1] (by decide) rfl
        have hFc := va_free (wc := [(hm, .inr (3, [.int sc, .ref hw, .int (nI cn), .int (nI fu), .int lf_14, .int (bI dd_14), .int dn_14, .int rn, .int (bI tr), .int (nI lg), .ref he, .int me, .ref hd, .ref hen, .ref hnd])), (hw, .inl (cI, 160, .inl M_14))]) hD hS hA [0, 1] rfl
        refine va_callv (va_runV (As := [.int (nI ((plc M) + 1)), .int (nI (tbe k v g (stt (ety M) (1 - k))))]) (rest := []) ⟨hx, hb, hml, hown, hts⟩ (c_Mo_put l dC dI cI (hm := hm) (k := (plc M) + 1) (x := (nI (tbe k v g (stt (ety M) (1 - k))))) (sc := sc) (hw := hw) (cn := cn) (fu := fu) (lf := lf_14) (dd := dd_14) (dn := dn_14) (rn := rn) (tr := tr) (lg := lg) (he := he) (me := me) (hd := hd) (hen := hen) (hnd := hnd) (M := M_14) (hk := (by omega)) (sz := H.size)) ⟨callB_of 2 hts (gd kw_555) rfl rfl rfl (hts _ kw_41) (hts _ kw_552) (by decide +kernel) ⟨Nat.le_of_ble_eq_true rfl, Nat.le_of_ble_eq_true rfl⟩, (hts _ kw_554), (hts _ kw_29)⟩ ⟨fun a U g mk q => by obtain ⟨q0, q1, qP, qK, qD⟩ := q; exact ⟨q0, q1, qP, qK.call, qD⟩, va_recv hK hP (ci := 3) rfl (q0 := 0) rfl, fun U hU hW => ⟨rfl, by rw [hU], by rw [hU]; exact hPc, hKN.warm hW, hDc.weaken (fun _ _ _ _ => trivial)⟩⟩ rfl rfl hl.1 rfl (lv_room (Nat.le_of_ble_eq_true rfl)) d_Mo_table_98 ⟨Nat.zero_le _, Nat.zero_le _⟩) hS (fun q _ h => hFc q h) hFc (fun u t H1 locs zt zvm zw zB zz zk hS => ?_)
        obtain ⟨M_15, dd_15, dn_15, lf_15⟩ := u
        have hu_15 := zw
        obtain ⟨hP1, hD1⟩ := zB
        rw [zt] at hP1
        have hP1 : va_P (dC, dI) classes [(hm, .inr (3, [.int sc, .ref hw, .int (nI cn), .int (nI fu), .int lf_15, .int (bI dd_15), .int dn_15, .int rn, .int (bI tr), .int (nI lg), .ref he, .int me, .ref hd, .ref hen, .ref hnd])), (hw, .inl (cI, 160, .inl M_15))] H1 := hP1
        obtain ⟨hP, hD⟩ := va_join (wc := [(hm, .inr (3, [.int sc, .ref hw, .int (nI cn), .int (nI fu), .int lf_14, .int (bI dd_14), .int dn_14, .int rn, .int (bI tr), .int (nI lg), .ref he, .int me, .ref hd, .ref hen, .ref hnd])), (hw, .inl (cI, 160, .inl M_14))]) (wr := []) (w1 := [(hm, .inr (3, [.int sc, .ref hw, .int (nI cn), .int (nI fu), .int lf_15, .int (bI dd_15), .int dn_15, .int rn, .int (bI tr), .int (nI lg), .ref he, .int me, .ref hd, .ref hen, .ref hnd])), (hw, .inl (cI, 160, .inl M_15))]) hP hD [0, 1] [] rfl rfl (by decide) (by decide) zk hFc hP1 hD1
        generalize H1 = H at hP hS ⊢
        have hP : va_P (dC, dI) classes [(hm, .inr (3, [.int sc, .ref hw, .int (nI cn), .int (nI fu), .int lf_15, .int (bI dd_15), .int dn_15, .int rn, .int (bI tr), .int (nI lg), .ref he, .int me, .ref hd, .ref hen, .ref hnd])), (hw, .inl (cI, 160, .inl M_15))] H := hP.sub [0, 1] rfl
        have hD : va_D A [(hm, .inr (3, [.int sc, .ref hw, .int (nI cn), .int (nI fu), .int lf_15, .int (bI dd_15), .int dn_15, .int rn, .int (bI tr), .int (nI lg), .ref he, .int me, .ref hd, .ref hen, .ref hnd])), (hw, .inl (cI, 160, .inl M_15))] := hD.sub [0, 1] (by decide) rfl
        clear hPc hDc hFc hP1 hD1 zk zz zvm zt
        refine lv_aload_n hx hb d_Mo_table_101 rfl (lv_at hl 5 rfl) ?_
        refine lv_iload hx hb d_Mo_table_102 (lv_at hl 0 rfl) ?_
        refine lv_iconst (v := (nI 2)) hx hb d_Mo_table_104 (by decide) ?_
        refine lv_iadd hx hb d_Mo_table_105 ?_
        refine tp (nI_add _ _) ?_
        refine lv_iload hx hb d_Mo_table_106 (lv_at hl 3 rfl) ?_
        refine lv_iload hx hb d_Mo_table_108 (lv_at hl 1 rfl) ?_
        refine pr_call (va_runS (As := [.int (srl M), .int (nI (tbe k v g (stt (ety M) (1 - k))))]) (rest := [.int (nI ((plc M) + 2)), .ref hm]) ⟨hx, hb, hml, hown, hts⟩ (c_Mo_check l dC dI cI (a := srl M) (b := (nI (tbe k v g (stt (ety M) (1 - k))))) ) ⟨callB_of 2 hts (gd kw_438) rfl rfl rfl (hts _ kw_41) (hts _ kw_436) (by decide +kernel) ⟨Nat.le_of_ble_eq_true rfl, Nat.le_of_ble_eq_true rfl⟩, (hts _ kw_437)⟩ ⟨fun a U g mk q => by obtain ⟨q0, qP, qK⟩ := q; exact ⟨q0, qP, qK.call⟩, fun U hU hW => ⟨rfl, by rw [hU]; exact hP.sub [] rfl, hKN.warm hW⟩⟩ rfl rfl hl.1 rfl (lv_room (Nat.le_of_ble_eq_true rfl)) d_Mo_table_110 ⟨Nat.zero_le _, Nat.zero_le _⟩) ?_
        have hPc := hP.sub (ws' := [(hm, .inr (3, [.int sc, .ref hw, .int (nI cn), .int (nI fu), .int lf_15, .int (bI dd_15), .int dn_15, .int rn, .int (bI tr), .int (nI lg), .ref he, .int me, .ref hd, .ref hen, .ref hnd])), (hw, .inl (cI, 160, .inl M_15))]) [0, 1] rfl
        have hDc := hD.sub (ws' := [(hm, .inr (3, [.int sc, .ref hw, .int (nI cn), .int (nI fu), .int lf_15, .int (bI dd_15), .int dn_15, .int rn, .int (bI tr), .int (nI lg), .ref he, .int me, .ref hd, .ref hen, .ref hnd])), (hw, .inl (cI, 160, .inl M_15))]) [0, 1] (by decide) rfl
        have hFc := va_free (wc := [(hm, .inr (3, [.int sc, .ref hw, .int (nI cn), .int (nI fu), .int lf_15, .int (bI dd_15), .int dn_15, .int rn, .int (bI tr), .int (nI lg), .ref he, .int me, .ref hd, .ref hen, .ref hnd])), (hw, .inl (cI, 160, .inl M_15))]) hD hS hA [0, 1] rfl
        refine va_callv (va_runV (As := [.int (nI ((plc M) + 2)), .int (ck (srl M) (nI (tbe k v g (stt (ety M) (1 - k)))))]) (rest := []) ⟨hx, hb, hml, hown, hts⟩ (c_Mo_put l dC dI cI (hm := hm) (k := (plc M) + 2) (x := ck (srl M) (nI (tbe k v g (stt (ety M) (1 - k))))) (sc := sc) (hw := hw) (cn := cn) (fu := fu) (lf := lf_15) (dd := dd_15) (dn := dn_15) (rn := rn) (tr := tr) (lg := lg) (he := he) (me := me) (hd := hd) (hen := hen) (hnd := hnd) (M := M_15) (hk := (by omega)) (sz := H.size)) ⟨callB_of 2 hts (gd kw_555) rfl rfl rfl (hts _ kw_41) (hts _ kw_552) (by decide +kernel) ⟨Nat.le_of_ble_eq_true rfl, Nat.le_of_ble_eq_true rfl⟩, (hts _ kw_554), (hts _ kw_29)⟩ ⟨fun a U g mk q => by obtain ⟨q0, q1, qP, qK, qD⟩ := q; exact ⟨q0, q1, qP, qK.call, qD⟩, va_recv hK hP (ci := 3) rfl (q0 := 0) rfl, fun U hU hW => ⟨rfl, by rw [hU], by rw [hU]; exact hPc, hKN.warm hW, hDc.weaken (fun _ _ _ _ => trivial)⟩⟩ rfl rfl hl.1 rfl (lv_room (Nat.le_of_ble_eq_true rfl)) d_Mo_table_113 ⟨Nat.zero_le _, Nat.zero_le _⟩) hS (fun q _ h => hFc q h) hFc (fun u t H1 locs zt zvm zw zB zz zk hS => ?_)
        obtain ⟨M_16, dd_16, dn_16, lf_16⟩ := u
        have hu_16 := zw
        obtain ⟨hP1, hD1⟩ := zB
        rw [zt] at hP1
        have hP1 : va_P (dC, dI) classes [(hm, .inr (3, [.int sc, .ref hw, .int (nI cn), .int (nI fu), .int lf_16, .int (bI dd_16), .int dn_16, .int rn, .int (bI tr), .int (nI lg), .ref he, .int me, .ref hd, .ref hen, .ref hnd])), (hw, .inl (cI, 160, .inl M_16))] H1 := hP1
        obtain ⟨hP, hD⟩ := va_join (wc := [(hm, .inr (3, [.int sc, .ref hw, .int (nI cn), .int (nI fu), .int lf_15, .int (bI dd_15), .int dn_15, .int rn, .int (bI tr), .int (nI lg), .ref he, .int me, .ref hd, .ref hen, .ref hnd])), (hw, .inl (cI, 160, .inl M_15))]) (wr := []) (w1 := [(hm, .inr (3, [.int sc, .ref hw, .int (nI cn), .int (nI fu), .int lf_16, .int (bI dd_16), .int dn_16, .int rn, .int (bI tr), .int (nI lg), .ref he, .int me, .ref hd, .ref hen, .ref hnd])), (hw, .inl (cI, 160, .inl M_16))]) hP hD [0, 1] [] rfl rfl (by decide) (by decide) zk hFc hP1 hD1
        generalize H1 = H at hP hS ⊢
        have hP : va_P (dC, dI) classes [(hm, .inr (3, [.int sc, .ref hw, .int (nI cn), .int (nI fu), .int lf_16, .int (bI dd_16), .int dn_16, .int rn, .int (bI tr), .int (nI lg), .ref he, .int me, .ref hd, .ref hen, .ref hnd])), (hw, .inl (cI, 160, .inl M_16))] H := hP.sub [0, 1] rfl
        have hD : va_D A [(hm, .inr (3, [.int sc, .ref hw, .int (nI cn), .int (nI fu), .int lf_16, .int (bI dd_16), .int dn_16, .int rn, .int (bI tr), .int (nI lg), .ref he, .int me, .ref hd, .ref hen, .ref hnd])), (hw, .inl (cI, 160, .inl M_16))] := hD.sub [0, 1] (by decide) rfl
        clear hPc hDc hFc hP1 hD1 zk zz zvm zt
        exact W.vret hx hb hr (fun t ht hW => ⟨⟨(M_16, dd_16, dn_16, lf_16), rfl, (by simp only [mTab, hu_14, hu_15, hu_16]), by rw [ht]; exact hP, hD⟩, hS.F ht⟩) hS.2.2 d_Mo_table_116
    · refine lv_iconst (v := (nI 2)) hx hb d_Mo_table_45 (by decide) ?_
      refine lv_iload_n hx hb d_Mo_table_46 rfl (lv_at hl 5 rfl) ?_
      refine lv_imul hx hb d_Mo_table_47 ?_
      refine tp (pk_mul _ _) ?_
      refine lv_bipush (v := (nI 8)) hx hb d_Mo_table_48 (by decide) ?_
      refine lv_iload hx hb d_Mo_table_50 (lv_at hl 0 rfl) ?_
      refine lv_imul hx hb d_Mo_table_52 ?_
      refine tp (pk_mul _ _) ?_
      refine lv_iadd hx hb d_Mo_table_53 ?_
      refine tp (nI_add _ _) ?_
      refine lv_goto (tgt := 66) hx hb d_Mo_table_54 (by decide) ?_
      refine lv_iadd hx hb d_Mo_table_66 ?_
      refine tp (nI_add _ _) ?_
      refine tp (y := nI (tbe k v g (stt (ety M) (1 - k)))) (by rw [tbe, if_pos h_12]) ?_
      refine lv_istore (lv' := [(7, .int (nI (tbe k v g (stt (ety M) (1 - k))))), (6, .int (nI (stt (ety M) (1 - k)))), (5, .int (srl M)), (4, .int (nI 0)), (0, .ref hm), (1, .int (nI k)), (2, .int (nI v)), (3, .int (nI g))]) hx hb d_Mo_table_67 hl (by decide) rfl (fun ls hl => ?_)
      refine lv_iload hx hb d_Mo_table_69 (lv_at hl 3 rfl) ?_
      refine nz_ne (tgt := 79) hx hb d_Mo_table_71 (by decide) (by decide) (fun h_17 => ?_) (fun h_17 => ?_)
      · exact absurd h_17 (by decide)
      · refine lv_bipush (v := (nI 37)) hx hb d_Mo_table_74 (by decide) ?_
        refine lv_goto (tgt := 81) hx hb d_Mo_table_76 (by decide) ?_
        refine tp (y := nI (plc M)) (plc_0 hc) ?_
        refine lv_istore (lv' := [(8, .int (nI (plc M))), (7, .int (nI (tbe k v g (stt (ety M) (1 - k))))), (6, .int (nI (stt (ety M) (1 - k)))), (5, .int (srl M)), (4, .int (nI 0)), (0, .ref hm), (1, .int (nI k)), (2, .int (nI v)), (3, .int (nI g))]) hx hb d_Mo_table_81 hl (by decide) rfl (fun ls hl => ?_)
        refine lv_aload_n hx hb d_Mo_table_83 rfl (lv_at hl 5 rfl) ?_
        refine lv_iload hx hb d_Mo_table_84 (lv_at hl 0 rfl) ?_
        refine lv_iload hx hb d_Mo_table_86 (lv_at hl 3 rfl) ?_
        have hPc := hP.sub (ws' := [(hm, .inr (3, [.int sc, .ref hw, .int (nI cn), .int (nI fu), .int lf, .int (bI dd), .int dn, .int rn, .int (bI tr), .int (nI lg), .ref he, .int me, .ref hd, .ref hen, .ref hnd])), (hw, .inl (cI, 160, .inl M))]) [0, 1] rfl
        have hDc := hD.sub (ws' := [(hm, .inr (3, [.int sc, .ref hw, .int (nI cn), .int (nI fu), .int lf, .int (bI dd), .int dn, .int rn, .int (bI tr), .int (nI lg), .ref he, .int me, .ref hd, .ref hen, .ref hnd])), (hw, .inl (cI, 160, .inl M))]) [0, 1] (by decide) rfl
        have hFc := va_free (wc := [(hm, .inr (3, [.int sc, .ref hw, .int (nI cn), .int (nI fu), .int lf, .int (bI dd), .int dn, .int rn, .int (bI tr), .int (nI lg), .ref he, .int me, .ref hd, .ref hen, .ref hnd])), (hw, .inl (cI, 160, .inl M))]) hD hS hA [0, 1] rfl
        refine va_callv (va_runV (As := [.int (nI (plc M)), .int (srl M)]) (rest := []) ⟨hx, hb, hml, hown, hts⟩ (c_Mo_put l dC dI cI (hm := hm) (k := plc M) (x := srl M) (sc := sc) (hw := hw) (cn := cn) (fu := fu) (lf := lf) (dd := dd) (dn := dn) (rn := rn) (tr := tr) (lg := lg) (he := he) (me := me) (hd := hd) (hen := hen) (hnd := hnd) (M := M) (hk := (by omega)) (sz := s.heap.size)) ⟨callB_of 2 hts (gd kw_555) rfl rfl rfl (hts _ kw_41) (hts _ kw_552) (by decide +kernel) ⟨Nat.le_of_ble_eq_true rfl, Nat.le_of_ble_eq_true rfl⟩, (hts _ kw_554), (hts _ kw_29)⟩ ⟨fun a U g mk q => by obtain ⟨q0, q1, qP, qK, qD⟩ := q; exact ⟨q0, q1, qP, qK.call, qD⟩, va_recv hK hP (ci := 3) rfl (q0 := 0) rfl, fun U hU hW => ⟨rfl, by rw [hU], by rw [hU]; exact hPc, hKN.warm hW, hDc.weaken (fun _ _ _ _ => trivial)⟩⟩ rfl rfl hl.1 rfl (lv_room (Nat.le_of_ble_eq_true rfl)) d_Mo_table_88 ⟨Nat.zero_le _, Nat.zero_le _⟩) hS (fun q _ h => hFc q h) hFc (fun u t H1 locs zt zvm zw zB zz zk hS => ?_)
        obtain ⟨M_18, dd_18, dn_18, lf_18⟩ := u
        have hu_18 := zw
        obtain ⟨hP1, hD1⟩ := zB
        rw [zt] at hP1
        have hP1 : va_P (dC, dI) classes [(hm, .inr (3, [.int sc, .ref hw, .int (nI cn), .int (nI fu), .int lf_18, .int (bI dd_18), .int dn_18, .int rn, .int (bI tr), .int (nI lg), .ref he, .int me, .ref hd, .ref hen, .ref hnd])), (hw, .inl (cI, 160, .inl M_18))] H1 := hP1
        obtain ⟨hP, hD⟩ := va_join (wc := [(hm, .inr (3, [.int sc, .ref hw, .int (nI cn), .int (nI fu), .int lf, .int (bI dd), .int dn, .int rn, .int (bI tr), .int (nI lg), .ref he, .int me, .ref hd, .ref hen, .ref hnd])), (hw, .inl (cI, 160, .inl M))]) (wr := []) (w1 := [(hm, .inr (3, [.int sc, .ref hw, .int (nI cn), .int (nI fu), .int lf_18, .int (bI dd_18), .int dn_18, .int rn, .int (bI tr), .int (nI lg), .ref he, .int me, .ref hd, .ref hen, .ref hnd])), (hw, .inl (cI, 160, .inl M_18))]) hP hD [0, 1] [] rfl rfl (by decide) (by decide) zk hFc hP1 hD1
        generalize H1 = H at hP hS ⊢
        have hP : va_P (dC, dI) classes [(hm, .inr (3, [.int sc, .ref hw, .int (nI cn), .int (nI fu), .int lf_18, .int (bI dd_18), .int dn_18, .int rn, .int (bI tr), .int (nI lg), .ref he, .int me, .ref hd, .ref hen, .ref hnd])), (hw, .inl (cI, 160, .inl M_18))] H := hP.sub [0, 1] rfl
        have hD : va_D A [(hm, .inr (3, [.int sc, .ref hw, .int (nI cn), .int (nI fu), .int lf_18, .int (bI dd_18), .int dn_18, .int rn, .int (bI tr), .int (nI lg), .ref he, .int me, .ref hd, .ref hen, .ref hnd])), (hw, .inl (cI, 160, .inl M_18))] := hD.sub [0, 1] (by decide) rfl
        clear hPc hDc hFc hP1 hD1 zk zz zvm zt
        refine lv_aload_n hx hb d_Mo_table_91 rfl (lv_at hl 5 rfl) ?_
        refine lv_iload hx hb d_Mo_table_92 (lv_at hl 0 rfl) ?_
        refine lv_iconst (v := (nI 1)) hx hb d_Mo_table_94 (by decide) ?_
        refine lv_iadd hx hb d_Mo_table_95 ?_
        refine tp (nI_add _ _) ?_
        refine lv_iload hx hb d_Mo_table_96 (lv_at hl 1 rfl) ?_
        have hPc := hP.sub (ws' := [(hm, .inr (3, [.int sc, .ref hw, .int (nI cn), .int (nI fu), .int lf_18, .int (bI dd_18), .int dn_18, .int rn, .int (bI tr), .int (nI lg), .ref he, .int me, .ref hd, .ref hen, .ref hnd])), (hw, .inl (cI, 160, .inl M_18))]) [0, 1] rfl
        have hDc := hD.sub (ws' := [(hm, .inr (3, [.int sc, .ref hw, .int (nI cn), .int (nI fu), .int lf_18, .int (bI dd_18), .int dn_18, .int rn, .int (bI tr), .int (nI lg), .ref he, .int me, .ref hd, .ref hen, .ref hnd])), (hw, .inl (cI, 160, .inl M_18))]) [0, 1] (by decide) rfl
        have hFc := va_free (wc := [(hm, .inr (3, [.int sc, .ref hw, .int (nI cn), .int (nI fu), .int lf_18, .int (bI dd_18), .int dn_18, .int rn, .int (bI tr), .int (nI lg), .ref he, .int me, .ref hd, .ref hen, .ref hnd])), (hw, .inl (cI, 160, .inl M_18))]) hD hS hA [0, 1] rfl
        refine va_callv (va_runV (As := [.int (nI ((plc M) + 1)), .int (nI (tbe k v g (stt (ety M) (1 - k))))]) (rest := []) ⟨hx, hb, hml, hown, hts⟩ (c_Mo_put l dC dI cI (hm := hm) (k := (plc M) + 1) (x := (nI (tbe k v g (stt (ety M) (1 - k))))) (sc := sc) (hw := hw) (cn := cn) (fu := fu) (lf := lf_18) (dd := dd_18) (dn := dn_18) (rn := rn) (tr := tr) (lg := lg) (he := he) (me := me) (hd := hd) (hen := hen) (hnd := hnd) (M := M_18) (hk := (by omega)) (sz := H.size)) ⟨callB_of 2 hts (gd kw_555) rfl rfl rfl (hts _ kw_41) (hts _ kw_552) (by decide +kernel) ⟨Nat.le_of_ble_eq_true rfl, Nat.le_of_ble_eq_true rfl⟩, (hts _ kw_554), (hts _ kw_29)⟩ ⟨fun a U g mk q => by obtain ⟨q0, q1, qP, qK, qD⟩ := q; exact ⟨q0, q1, qP, qK.call, qD⟩, va_recv hK hP (ci := 3) rfl (q0 := 0) rfl, fun U hU hW => ⟨rfl, by rw [hU], by rw [hU]; exact hPc, hKN.warm hW, hDc.weaken (fun _ _ _ _ => trivial)⟩⟩ rfl rfl hl.1 rfl (lv_room (Nat.le_of_ble_eq_true rfl)) d_Mo_table_98 ⟨Nat.zero_le _, Nat.zero_le _⟩) hS (fun q _ h => hFc q h) hFc (fun u t H1 locs zt zvm zw zB zz zk hS => ?_)
        obtain ⟨M_19, dd_19, dn_19, lf_19⟩ := u
        have hu_19 := zw
        obtain ⟨hP1, hD1⟩ := zB
        rw [zt] at hP1
        have hP1 : va_P (dC, dI) classes [(hm, .inr (3, [.int sc, .ref hw, .int (nI cn), .int (nI fu), .int lf_19, .int (bI dd_19), .int dn_19, .int rn, .int (bI tr), .int (nI lg), .ref he, .int me, .ref hd, .ref hen, .ref hnd])), (hw, .inl (cI, 160, .inl M_19))] H1 := hP1
        obtain ⟨hP, hD⟩ := va_join (wc := [(hm, .inr (3, [.int sc, .ref hw, .int (nI cn), .int (nI fu), .int lf_18, .int (bI dd_18), .int dn_18, .int rn, .int (bI tr), .int (nI lg), .ref he, .int me, .ref hd, .ref hen, .ref hnd])), (hw, .inl (cI, 160, .inl M_18))]) (wr := []) (w1 := [(hm, .inr (3, [.int sc, .ref hw, .int (nI cn), .int (nI fu), .int lf_19, .int (bI dd_19), .int dn_19, .int rn, .int (bI tr), .int (nI lg), .ref he, .int me, .ref hd, .ref hen, .ref hnd])), (hw, .inl (cI, 160, .inl M_19))]) hP hD [0, 1] [] rfl rfl (by decide) (by decide) zk hFc hP1 hD1
        generalize H1 = H at hP hS ⊢
        have hP : va_P (dC, dI) classes [(hm, .inr (3, [.int sc, .ref hw, .int (nI cn), .int (nI fu), .int lf_19, .int (bI dd_19), .int dn_19, .int rn, .int (bI tr), .int (nI lg), .ref he, .int me, .ref hd, .ref hen, .ref hnd])), (hw, .inl (cI, 160, .inl M_19))] H := hP.sub [0, 1] rfl
        have hD : va_D A [(hm, .inr (3, [.int sc, .ref hw, .int (nI cn), .int (nI fu), .int lf_19, .int (bI dd_19), .int dn_19, .int rn, .int (bI tr), .int (nI lg), .ref he, .int me, .ref hd, .ref hen, .ref hnd])), (hw, .inl (cI, 160, .inl M_19))] := hD.sub [0, 1] (by decide) rfl
        clear hPc hDc hFc hP1 hD1 zk zz zvm zt
        refine lv_aload_n hx hb d_Mo_table_101 rfl (lv_at hl 5 rfl) ?_
        refine lv_iload hx hb d_Mo_table_102 (lv_at hl 0 rfl) ?_
        refine lv_iconst (v := (nI 2)) hx hb d_Mo_table_104 (by decide) ?_
        refine lv_iadd hx hb d_Mo_table_105 ?_
        refine tp (nI_add _ _) ?_
        refine lv_iload hx hb d_Mo_table_106 (lv_at hl 3 rfl) ?_
        refine lv_iload hx hb d_Mo_table_108 (lv_at hl 1 rfl) ?_
        refine pr_call (va_runS (As := [.int (srl M), .int (nI (tbe k v g (stt (ety M) (1 - k))))]) (rest := [.int (nI ((plc M) + 2)), .ref hm]) ⟨hx, hb, hml, hown, hts⟩ (c_Mo_check l dC dI cI (a := srl M) (b := (nI (tbe k v g (stt (ety M) (1 - k))))) ) ⟨callB_of 2 hts (gd kw_438) rfl rfl rfl (hts _ kw_41) (hts _ kw_436) (by decide +kernel) ⟨Nat.le_of_ble_eq_true rfl, Nat.le_of_ble_eq_true rfl⟩, (hts _ kw_437)⟩ ⟨fun a U g mk q => by obtain ⟨q0, qP, qK⟩ := q; exact ⟨q0, qP, qK.call⟩, fun U hU hW => ⟨rfl, by rw [hU]; exact hP.sub [] rfl, hKN.warm hW⟩⟩ rfl rfl hl.1 rfl (lv_room (Nat.le_of_ble_eq_true rfl)) d_Mo_table_110 ⟨Nat.zero_le _, Nat.zero_le _⟩) ?_
        have hPc := hP.sub (ws' := [(hm, .inr (3, [.int sc, .ref hw, .int (nI cn), .int (nI fu), .int lf_19, .int (bI dd_19), .int dn_19, .int rn, .int (bI tr), .int (nI lg), .ref he, .int me, .ref hd, .ref hen, .ref hnd])), (hw, .inl (cI, 160, .inl M_19))]) [0, 1] rfl
        have hDc := hD.sub (ws' := [(hm, .inr (3, [.int sc, .ref hw, .int (nI cn), .int (nI fu), .int lf_19, .int (bI dd_19), .int dn_19, .int rn, .int (bI tr), .int (nI lg), .ref he, .int me, .ref hd, .ref hen, .ref hnd])), (hw, .inl (cI, 160, .inl M_19))]) [0, 1] (by decide) rfl
        have hFc := va_free (wc := [(hm, .inr (3, [.int sc, .ref hw, .int (nI cn), .int (nI fu), .int lf_19, .int (bI dd_19), .int dn_19, .int rn, .int (bI tr), .int (nI lg), .ref he, .int me, .ref hd, .ref hen, .ref hnd])), (hw, .inl (cI, 160, .inl M_19))]) hD hS hA [0, 1] rfl
        refine va_callv (va_runV (As := [.int (nI ((plc M) + 2)), .int (ck (srl M) (nI (tbe k v g (stt (ety M) (1 - k)))))]) (rest := []) ⟨hx, hb, hml, hown, hts⟩ (c_Mo_put l dC dI cI (hm := hm) (k := (plc M) + 2) (x := ck (srl M) (nI (tbe k v g (stt (ety M) (1 - k))))) (sc := sc) (hw := hw) (cn := cn) (fu := fu) (lf := lf_19) (dd := dd_19) (dn := dn_19) (rn := rn) (tr := tr) (lg := lg) (he := he) (me := me) (hd := hd) (hen := hen) (hnd := hnd) (M := M_19) (hk := (by omega)) (sz := H.size)) ⟨callB_of 2 hts (gd kw_555) rfl rfl rfl (hts _ kw_41) (hts _ kw_552) (by decide +kernel) ⟨Nat.le_of_ble_eq_true rfl, Nat.le_of_ble_eq_true rfl⟩, (hts _ kw_554), (hts _ kw_29)⟩ ⟨fun a U g mk q => by obtain ⟨q0, q1, qP, qK, qD⟩ := q; exact ⟨q0, q1, qP, qK.call, qD⟩, va_recv hK hP (ci := 3) rfl (q0 := 0) rfl, fun U hU hW => ⟨rfl, by rw [hU], by rw [hU]; exact hPc, hKN.warm hW, hDc.weaken (fun _ _ _ _ => trivial)⟩⟩ rfl rfl hl.1 rfl (lv_room (Nat.le_of_ble_eq_true rfl)) d_Mo_table_113 ⟨Nat.zero_le _, Nat.zero_le _⟩) hS (fun q _ h => hFc q h) hFc (fun u t H1 locs zt zvm zw zB zz zk hS => ?_)
        obtain ⟨M_20, dd_20, dn_20, lf_20⟩ := u
        have hu_20 := zw
        obtain ⟨hP1, hD1⟩ := zB
        rw [zt] at hP1
        have hP1 : va_P (dC, dI) classes [(hm, .inr (3, [.int sc, .ref hw, .int (nI cn), .int (nI fu), .int lf_20, .int (bI dd_20), .int dn_20, .int rn, .int (bI tr), .int (nI lg), .ref he, .int me, .ref hd, .ref hen, .ref hnd])), (hw, .inl (cI, 160, .inl M_20))] H1 := hP1
        obtain ⟨hP, hD⟩ := va_join (wc := [(hm, .inr (3, [.int sc, .ref hw, .int (nI cn), .int (nI fu), .int lf_19, .int (bI dd_19), .int dn_19, .int rn, .int (bI tr), .int (nI lg), .ref he, .int me, .ref hd, .ref hen, .ref hnd])), (hw, .inl (cI, 160, .inl M_19))]) (wr := []) (w1 := [(hm, .inr (3, [.int sc, .ref hw, .int (nI cn), .int (nI fu), .int lf_20, .int (bI dd_20), .int dn_20, .int rn, .int (bI tr), .int (nI lg), .ref he, .int me, .ref hd, .ref hen, .ref hnd])), (hw, .inl (cI, 160, .inl M_20))]) hP hD [0, 1] [] rfl rfl (by decide) (by decide) zk hFc hP1 hD1
        generalize H1 = H at hP hS ⊢
        have hP : va_P (dC, dI) classes [(hm, .inr (3, [.int sc, .ref hw, .int (nI cn), .int (nI fu), .int lf_20, .int (bI dd_20), .int dn_20, .int rn, .int (bI tr), .int (nI lg), .ref he, .int me, .ref hd, .ref hen, .ref hnd])), (hw, .inl (cI, 160, .inl M_20))] H := hP.sub [0, 1] rfl
        have hD : va_D A [(hm, .inr (3, [.int sc, .ref hw, .int (nI cn), .int (nI fu), .int lf_20, .int (bI dd_20), .int dn_20, .int rn, .int (bI tr), .int (nI lg), .ref he, .int me, .ref hd, .ref hen, .ref hnd])), (hw, .inl (cI, 160, .inl M_20))] := hD.sub [0, 1] (by decide) rfl
        clear hPc hDc hFc hP1 hD1 zk zz zvm zt
        exact W.vret hx hb hr (fun t ht hW => ⟨⟨(M_20, dd_20, dn_20, lf_20), rfl, (by simp only [mTab, hu_18, hu_19, hu_20]), by rw [ht]; exact hP, hD⟩, hS.F ht⟩) hS.2.2 d_Mo_table_116
  · refine tp hc ?_
    refine lv_istore (lv' := [(4, .int (nI 1)), (0, .ref hm), (1, .int (nI k)), (2, .int (nI v)), (3, .int (nI g))]) hx hb d_Mo_table_4 hl (by decide) rfl (fun ls hl => ?_)
    refine lv_iconst (v := (nI 1)) hx hb d_Mo_table_6 (by decide) ?_
    refine lv_iload hx hb d_Mo_table_7 (lv_at hl 0 rfl) ?_
    refine nz_ge (tgt := 16) hx hb d_Mo_table_9 (by decide) (by omega) ?_
    refine lv_aload_n hx hb d_Mo_table_16 rfl (lv_at hl 1 rfl) ?_
    refine va_get (D := (dC, dI)) (ci := 3) (v := .ref hw) (C := R_Mo) (T := F_Mo) (N := 15) hx hb hts in_Mo hown hK hP 0 rfl rfl 1 (by decide) (hts _ kw_440) (fun _ h9 => h9) rfl d_Mo_table_17 ?_
    refine lv_bipush (v := (nI 34)) hx hb d_Mo_table_20 (by decide) ?_
    refine lv_iconst (v := (nI 3)) hx hb d_Mo_table_22 (by decide) ?_
    refine lv_iload hx hb d_Mo_table_23 (lv_at hl 0 rfl) ?_
    refine lv_imul hx hb d_Mo_table_25 ?_
    refine tp (y := (nI 3)) (by decide) ?_
    refine lv_iadd hx hb d_Mo_table_26 ?_
    refine tp (y := (nI 37)) (by decide) ?_
    refine ar_ld (k := 37) hx hb hK hP 1 0 rfl rfl (by omega) (by first | decide | omega) d_Mo_table_27 ?_
    refine lv_iadd hx hb d_Mo_table_28 ?_
    refine tp (y := srl M) (srl_1 hc) ?_
    refine lv_istore (lv' := [(5, .int (srl M)), (4, .int (nI 1)), (0, .ref hm), (1, .int (nI k)), (2, .int (nI v)), (3, .int (nI g))]) hx hb d_Mo_table_29 hl (by decide) rfl (fun ls hl => ?_)
    refine lv_aload_n hx hb d_Mo_table_31 rfl (lv_at hl 2 rfl) ?_
    refine lv_iconst (v := (nI 1)) hx hb d_Mo_table_32 (by decide) ?_
    refine lv_iload_n hx hb d_Mo_table_33 rfl (lv_at hl 3 rfl) ?_
    refine lv_isub hx hb d_Mo_table_34 ?_
    refine tp (pk_sub (by omega)) ?_
    refine pr_call (va_runV (As := [.int (nI (1 - k))]) (rest := []) ⟨hx, hb, hml, hown, hts⟩ (c_Mo_state l dC dI cI (hm := hm) (v := (nI (1 - k))) (sc := sc) (hw := hw) (cn := cn) (fu := fu) (lf := lf) (dd := dd) (dn := dn) (rn := rn) (tr := tr) (lg := lg) (he := he) (me := me) (hd := hd) (hen := hen) (hnd := hnd) (M := M) ) ⟨callB_of 1 hts (gd kw_541) rfl rfl rfl (hts _ kw_41) (hts _ kw_551) (by decide +kernel) ⟨Nat.le_of_ble_eq_true rfl, Nat.le_of_ble_eq_true rfl⟩, (hts _ kw_539), (hts _ kw_540)⟩ ⟨fun a U g mk q => by obtain ⟨q0, qP, qK⟩ := q; exact ⟨q0, qP, qK.call⟩, va_recv hK hP (ci := 3) rfl (q0 := 0) rfl, fun U hU hW => ⟨rfl, by rw [hU]; exact hP.sub [0, 1] rfl, hKN.warm hW⟩⟩ rfl rfl hl.1 rfl (lv_room (Nat.le_of_ble_eq_true rfl)) d_Mo_table_35 ⟨Nat.zero_le _, Nat.zero_le _⟩) ?_
    refine tp (sta_n (by omega)) ?_
    refine lv_istore (lv' := [(6, .int (nI (stt (ety M) (1 - k)))), (5, .int (srl M)), (4, .int (nI 1)), (0, .ref hm), (1, .int (nI k)), (2, .int (nI v)), (3, .int (nI g))]) hx hb d_Mo_table_38 hl (by decide) rfl (fun ls hl => ?_)
    refine lv_iload_n hx hb d_Mo_table_40 rfl (lv_at hl 6 rfl) ?_
    refine lv_iload_n hx hb d_Mo_table_41 rfl (lv_at hl 4 rfl) ?_
    refine nz_ne (tgt := 57) hx hb d_Mo_table_42 (by decide) (by omega) (fun h_22 => ?_) (fun h_22 => ?_)
    · refine lv_iconst (v := (nI 2)) hx hb d_Mo_table_57 (by decide) ?_
      refine lv_iload hx hb d_Mo_table_58 (lv_at hl 0 rfl) ?_
      refine lv_imul hx hb d_Mo_table_60 ?_
      refine tp (pk_mul _ _) ?_
      refine lv_bipush (v := (nI 8)) hx hb d_Mo_table_61 (by decide) ?_
      refine lv_iload_n hx hb d_Mo_table_63 rfl (lv_at hl 5 rfl) ?_
      refine lv_imul hx hb d_Mo_table_64 ?_
      refine tp (pk_mul _ _) ?_
      refine lv_iadd hx hb d_Mo_table_65 ?_
      refine tp (nI_add _ _) ?_
      refine lv_iadd hx hb d_Mo_table_66 ?_
      refine tp (nI_add _ _) ?_
      refine tp (y := nI (tbe k v g (stt (ety M) (1 - k)))) (by rw [tbe, if_neg h_22]) ?_
      refine lv_istore (lv' := [(7, .int (nI (tbe k v g (stt (ety M) (1 - k))))), (6, .int (nI (stt (ety M) (1 - k)))), (5, .int (srl M)), (4, .int (nI 1)), (0, .ref hm), (1, .int (nI k)), (2, .int (nI v)), (3, .int (nI g))]) hx hb d_Mo_table_67 hl (by decide) rfl (fun ls hl => ?_)
      refine lv_iload hx hb d_Mo_table_69 (lv_at hl 3 rfl) ?_
      refine nz_ne (tgt := 79) hx hb d_Mo_table_71 (by decide) (by decide) (fun h_23 => ?_) (fun h_23 => ?_)
      · refine lv_bipush (v := (nI 34)) hx hb d_Mo_table_79 (by decide) ?_
        refine tp (y := nI (plc M)) (plc_1 hc) ?_
        refine lv_istore (lv' := [(8, .int (nI (plc M))), (7, .int (nI (tbe k v g (stt (ety M) (1 - k))))), (6, .int (nI (stt (ety M) (1 - k)))), (5, .int (srl M)), (4, .int (nI 1)), (0, .ref hm), (1, .int (nI k)), (2, .int (nI v)), (3, .int (nI g))]) hx hb d_Mo_table_81 hl (by decide) rfl (fun ls hl => ?_)
        refine lv_aload_n hx hb d_Mo_table_83 rfl (lv_at hl 5 rfl) ?_
        refine lv_iload hx hb d_Mo_table_84 (lv_at hl 0 rfl) ?_
        refine lv_iload hx hb d_Mo_table_86 (lv_at hl 3 rfl) ?_
        have hPc := hP.sub (ws' := [(hm, .inr (3, [.int sc, .ref hw, .int (nI cn), .int (nI fu), .int lf, .int (bI dd), .int dn, .int rn, .int (bI tr), .int (nI lg), .ref he, .int me, .ref hd, .ref hen, .ref hnd])), (hw, .inl (cI, 160, .inl M))]) [0, 1] rfl
        have hDc := hD.sub (ws' := [(hm, .inr (3, [.int sc, .ref hw, .int (nI cn), .int (nI fu), .int lf, .int (bI dd), .int dn, .int rn, .int (bI tr), .int (nI lg), .ref he, .int me, .ref hd, .ref hen, .ref hnd])), (hw, .inl (cI, 160, .inl M))]) [0, 1] (by decide) rfl
        have hFc := va_free (wc := [(hm, .inr (3, [.int sc, .ref hw, .int (nI cn), .int (nI fu), .int lf, .int (bI dd), .int dn, .int rn, .int (bI tr), .int (nI lg), .ref he, .int me, .ref hd, .ref hen, .ref hnd])), (hw, .inl (cI, 160, .inl M))]) hD hS hA [0, 1] rfl
        refine va_callv (va_runV (As := [.int (nI (plc M)), .int (srl M)]) (rest := []) ⟨hx, hb, hml, hown, hts⟩ (c_Mo_put l dC dI cI (hm := hm) (k := plc M) (x := srl M) (sc := sc) (hw := hw) (cn := cn) (fu := fu) (lf := lf) (dd := dd) (dn := dn) (rn := rn) (tr := tr) (lg := lg) (he := he) (me := me) (hd := hd) (hen := hen) (hnd := hnd) (M := M) (hk := (by omega)) (sz := s.heap.size)) ⟨callB_of 2 hts (gd kw_555) rfl rfl rfl (hts _ kw_41) (hts _ kw_552) (by decide +kernel) ⟨Nat.le_of_ble_eq_true rfl, Nat.le_of_ble_eq_true rfl⟩, (hts _ kw_554), (hts _ kw_29)⟩ ⟨fun a U g mk q => by obtain ⟨q0, q1, qP, qK, qD⟩ := q; exact ⟨q0, q1, qP, qK.call, qD⟩, va_recv hK hP (ci := 3) rfl (q0 := 0) rfl, fun U hU hW => ⟨rfl, by rw [hU], by rw [hU]; exact hPc, hKN.warm hW, hDc.weaken (fun _ _ _ _ => trivial)⟩⟩ rfl rfl hl.1 rfl (lv_room (Nat.le_of_ble_eq_true rfl)) d_Mo_table_88 ⟨Nat.zero_le _, Nat.zero_le _⟩) hS (fun q _ h => hFc q h) hFc (fun u t H1 locs zt zvm zw zB zz zk hS => ?_)
        obtain ⟨M_24, dd_24, dn_24, lf_24⟩ := u
        have hu_24 := zw
        obtain ⟨hP1, hD1⟩ := zB
        rw [zt] at hP1
        have hP1 : va_P (dC, dI) classes [(hm, .inr (3, [.int sc, .ref hw, .int (nI cn), .int (nI fu), .int lf_24, .int (bI dd_24), .int dn_24, .int rn, .int (bI tr), .int (nI lg), .ref he, .int me, .ref hd, .ref hen, .ref hnd])), (hw, .inl (cI, 160, .inl M_24))] H1 := hP1
        obtain ⟨hP, hD⟩ := va_join (wc := [(hm, .inr (3, [.int sc, .ref hw, .int (nI cn), .int (nI fu), .int lf, .int (bI dd), .int dn, .int rn, .int (bI tr), .int (nI lg), .ref he, .int me, .ref hd, .ref hen, .ref hnd])), (hw, .inl (cI, 160, .inl M))]) (wr := []) (w1 := [(hm, .inr (3, [.int sc, .ref hw, .int (nI cn), .int (nI fu), .int lf_24, .int (bI dd_24), .int dn_24, .int rn, .int (bI tr), .int (nI lg), .ref he, .int me, .ref hd, .ref hen, .ref hnd])), (hw, .inl (cI, 160, .inl M_24))]) hP hD [0, 1] [] rfl rfl (by decide) (by decide) zk hFc hP1 hD1
        generalize H1 = H at hP hS ⊢
        have hP : va_P (dC, dI) classes [(hm, .inr (3, [.int sc, .ref hw, .int (nI cn), .int (nI fu), .int lf_24, .int (bI dd_24), .int dn_24, .int rn, .int (bI tr), .int (nI lg), .ref he, .int me, .ref hd, .ref hen, .ref hnd])), (hw, .inl (cI, 160, .inl M_24))] H := hP.sub [0, 1] rfl
        have hD : va_D A [(hm, .inr (3, [.int sc, .ref hw, .int (nI cn), .int (nI fu), .int lf_24, .int (bI dd_24), .int dn_24, .int rn, .int (bI tr), .int (nI lg), .ref he, .int me, .ref hd, .ref hen, .ref hnd])), (hw, .inl (cI, 160, .inl M_24))] := hD.sub [0, 1] (by decide) rfl
        clear hPc hDc hFc hP1 hD1 zk zz zvm zt
        refine lv_aload_n hx hb d_Mo_table_91 rfl (lv_at hl 5 rfl) ?_
        refine lv_iload hx hb d_Mo_table_92 (lv_at hl 0 rfl) ?_
        refine lv_iconst (v := (nI 1)) hx hb d_Mo_table_94 (by decide) ?_
        refine lv_iadd hx hb d_Mo_table_95 ?_
        refine tp (nI_add _ _) ?_
        refine lv_iload hx hb d_Mo_table_96 (lv_at hl 1 rfl) ?_
        have hPc := hP.sub (ws' := [(hm, .inr (3, [.int sc, .ref hw, .int (nI cn), .int (nI fu), .int lf_24, .int (bI dd_24), .int dn_24, .int rn, .int (bI tr), .int (nI lg), .ref he, .int me, .ref hd, .ref hen, .ref hnd])), (hw, .inl (cI, 160, .inl M_24))]) [0, 1] rfl
        have hDc := hD.sub (ws' := [(hm, .inr (3, [.int sc, .ref hw, .int (nI cn), .int (nI fu), .int lf_24, .int (bI dd_24), .int dn_24, .int rn, .int (bI tr), .int (nI lg), .ref he, .int me, .ref hd, .ref hen, .ref hnd])), (hw, .inl (cI, 160, .inl M_24))]) [0, 1] (by decide) rfl
        have hFc := va_free (wc := [(hm, .inr (3, [.int sc, .ref hw, .int (nI cn), .int (nI fu), .int lf_24, .int (bI dd_24), .int dn_24, .int rn, .int (bI tr), .int (nI lg), .ref he, .int me, .ref hd, .ref hen, .ref hnd])), (hw, .inl (cI, 160, .inl M_24))]) hD hS hA [0, 1] rfl
        refine va_callv (va_runV (As := [.int (nI ((plc M) + 1)), .int (nI (tbe k v g (stt (ety M) (1 - k))))]) (rest := []) ⟨hx, hb, hml, hown, hts⟩ (c_Mo_put l dC dI cI (hm := hm) (k := (plc M) + 1) (x := (nI (tbe k v g (stt (ety M) (1 - k))))) (sc := sc) (hw := hw) (cn := cn) (fu := fu) (lf := lf_24) (dd := dd_24) (dn := dn_24) (rn := rn) (tr := tr) (lg := lg) (he := he) (me := me) (hd := hd) (hen := hen) (hnd := hnd) (M := M_24) (hk := (by omega)) (sz := H.size)) ⟨callB_of 2 hts (gd kw_555) rfl rfl rfl (hts _ kw_41) (hts _ kw_552) (by decide +kernel) ⟨Nat.le_of_ble_eq_true rfl, Nat.le_of_ble_eq_true rfl⟩, (hts _ kw_554), (hts _ kw_29)⟩ ⟨fun a U g mk q => by obtain ⟨q0, q1, qP, qK, qD⟩ := q; exact ⟨q0, q1, qP, qK.call, qD⟩, va_recv hK hP (ci := 3) rfl (q0 := 0) rfl, fun U hU hW => ⟨rfl, by rw [hU], by rw [hU]; exact hPc, hKN.warm hW, hDc.weaken (fun _ _ _ _ => trivial)⟩⟩ rfl rfl hl.1 rfl (lv_room (Nat.le_of_ble_eq_true rfl)) d_Mo_table_98 ⟨Nat.zero_le _, Nat.zero_le _⟩) hS (fun q _ h => hFc q h) hFc (fun u t H1 locs zt zvm zw zB zz zk hS => ?_)
        obtain ⟨M_25, dd_25, dn_25, lf_25⟩ := u
        have hu_25 := zw
        obtain ⟨hP1, hD1⟩ := zB
        rw [zt] at hP1
        have hP1 : va_P (dC, dI) classes [(hm, .inr (3, [.int sc, .ref hw, .int (nI cn), .int (nI fu), .int lf_25, .int (bI dd_25), .int dn_25, .int rn, .int (bI tr), .int (nI lg), .ref he, .int me, .ref hd, .ref hen, .ref hnd])), (hw, .inl (cI, 160, .inl M_25))] H1 := hP1
        obtain ⟨hP, hD⟩ := va_join (wc := [(hm, .inr (3, [.int sc, .ref hw, .int (nI cn), .int (nI fu), .int lf_24, .int (bI dd_24), .int dn_24, .int rn, .int (bI tr), .int (nI lg), .ref he, .int me, .ref hd, .ref hen, .ref hnd])), (hw, .inl (cI, 160, .inl M_24))]) (wr := []) (w1 := [(hm, .inr (3, [.int sc, .ref hw, .int (nI cn), .int (nI fu), .int lf_25, .int (bI dd_25), .int dn_25, .int rn, .int (bI tr), .int (nI lg), .ref he, .int me, .ref hd, .ref hen, .ref hnd])), (hw, .inl (cI, 160, .inl M_25))]) hP hD [0, 1] [] rfl rfl (by decide) (by decide) zk hFc hP1 hD1
        generalize H1 = H at hP hS ⊢
        have hP : va_P (dC, dI) classes [(hm, .inr (3, [.int sc, .ref hw, .int (nI cn), .int (nI fu), .int lf_25, .int (bI dd_25), .int dn_25, .int rn, .int (bI tr), .int (nI lg), .ref he, .int me, .ref hd, .ref hen, .ref hnd])), (hw, .inl (cI, 160, .inl M_25))] H := hP.sub [0, 1] rfl
        have hD : va_D A [(hm, .inr (3, [.int sc, .ref hw, .int (nI cn), .int (nI fu), .int lf_25, .int (bI dd_25), .int dn_25, .int rn, .int (bI tr), .int (nI lg), .ref he, .int me, .ref hd, .ref hen, .ref hnd])), (hw, .inl (cI, 160, .inl M_25))] := hD.sub [0, 1] (by decide) rfl
        clear hPc hDc hFc hP1 hD1 zk zz zvm zt
        refine lv_aload_n hx hb d_Mo_table_101 rfl (lv_at hl 5 rfl) ?_
        refine lv_iload hx hb d_Mo_table_102 (lv_at hl 0 rfl) ?_
        refine lv_iconst (v := (nI 2)) hx hb d_Mo_table_104 (by decide) ?_
        refine lv_iadd hx hb d_Mo_table_105 ?_
        refine tp (nI_add _ _) ?_
        refine lv_iload hx hb d_Mo_table_106 (lv_at hl 3 rfl) ?_
        refine lv_iload hx hb d_Mo_table_108 (lv_at hl 1 rfl) ?_
        refine pr_call (va_runS (As := [.int (srl M), .int (nI (tbe k v g (stt (ety M) (1 - k))))]) (rest := [.int (nI ((plc M) + 2)), .ref hm]) ⟨hx, hb, hml, hown, hts⟩ (c_Mo_check l dC dI cI (a := srl M) (b := (nI (tbe k v g (stt (ety M) (1 - k))))) ) ⟨callB_of 2 hts (gd kw_438) rfl rfl rfl (hts _ kw_41) (hts _ kw_436) (by decide +kernel) ⟨Nat.le_of_ble_eq_true rfl, Nat.le_of_ble_eq_true rfl⟩, (hts _ kw_437)⟩ ⟨fun a U g mk q => by obtain ⟨q0, qP, qK⟩ := q; exact ⟨q0, qP, qK.call⟩, fun U hU hW => ⟨rfl, by rw [hU]; exact hP.sub [] rfl, hKN.warm hW⟩⟩ rfl rfl hl.1 rfl (lv_room (Nat.le_of_ble_eq_true rfl)) d_Mo_table_110 ⟨Nat.zero_le _, Nat.zero_le _⟩) ?_
        have hPc := hP.sub (ws' := [(hm, .inr (3, [.int sc, .ref hw, .int (nI cn), .int (nI fu), .int lf_25, .int (bI dd_25), .int dn_25, .int rn, .int (bI tr), .int (nI lg), .ref he, .int me, .ref hd, .ref hen, .ref hnd])), (hw, .inl (cI, 160, .inl M_25))]) [0, 1] rfl
        have hDc := hD.sub (ws' := [(hm, .inr (3, [.int sc, .ref hw, .int (nI cn), .int (nI fu), .int lf_25, .int (bI dd_25), .int dn_25, .int rn, .int (bI tr), .int (nI lg), .ref he, .int me, .ref hd, .ref hen, .ref hnd])), (hw, .inl (cI, 160, .inl M_25))]) [0, 1] (by decide) rfl
        have hFc := va_free (wc := [(hm, .inr (3, [.int sc, .ref hw, .int (nI cn), .int (nI fu), .int lf_25, .int (bI dd_25), .int dn_25, .int rn, .int (bI tr), .int (nI lg), .ref he, .int me, .ref hd, .ref hen, .ref hnd])), (hw, .inl (cI, 160, .inl M_25))]) hD hS hA [0, 1] rfl
        refine va_callv (va_runV (As := [.int (nI ((plc M) + 2)), .int (ck (srl M) (nI (tbe k v g (stt (ety M) (1 - k)))))]) (rest := []) ⟨hx, hb, hml, hown, hts⟩ (c_Mo_put l dC dI cI (hm := hm) (k := (plc M) + 2) (x := ck (srl M) (nI (tbe k v g (stt (ety M) (1 - k))))) (sc := sc) (hw := hw) (cn := cn) (fu := fu) (lf := lf_25) (dd := dd_25) (dn := dn_25) (rn := rn) (tr := tr) (lg := lg) (he := he) (me := me) (hd := hd) (hen := hen) (hnd := hnd) (M := M_25) (hk := (by omega)) (sz := H.size)) ⟨callB_of 2 hts (gd kw_555) rfl rfl rfl (hts _ kw_41) (hts _ kw_552) (by decide +kernel) ⟨Nat.le_of_ble_eq_true rfl, Nat.le_of_ble_eq_true rfl⟩, (hts _ kw_554), (hts _ kw_29)⟩ ⟨fun a U g mk q => by obtain ⟨q0, q1, qP, qK, qD⟩ := q; exact ⟨q0, q1, qP, qK.call, qD⟩, va_recv hK hP (ci := 3) rfl (q0 := 0) rfl, fun U hU hW => ⟨rfl, by rw [hU], by rw [hU]; exact hPc, hKN.warm hW, hDc.weaken (fun _ _ _ _ => trivial)⟩⟩ rfl rfl hl.1 rfl (lv_room (Nat.le_of_ble_eq_true rfl)) d_Mo_table_113 ⟨Nat.zero_le _, Nat.zero_le _⟩) hS (fun q _ h => hFc q h) hFc (fun u t H1 locs zt zvm zw zB zz zk hS => ?_)
        obtain ⟨M_26, dd_26, dn_26, lf_26⟩ := u
        have hu_26 := zw
        obtain ⟨hP1, hD1⟩ := zB
        rw [zt] at hP1
        have hP1 : va_P (dC, dI) classes [(hm, .inr (3, [.int sc, .ref hw, .int (nI cn), .int (nI fu), .int lf_26, .int (bI dd_26), .int dn_26, .int rn, .int (bI tr), .int (nI lg), .ref he, .int me, .ref hd, .ref hen, .ref hnd])), (hw, .inl (cI, 160, .inl M_26))] H1 := hP1
        obtain ⟨hP, hD⟩ := va_join (wc := [(hm, .inr (3, [.int sc, .ref hw, .int (nI cn), .int (nI fu), .int lf_25, .int (bI dd_25), .int dn_25, .int rn, .int (bI tr), .int (nI lg), .ref he, .int me, .ref hd, .ref hen, .ref hnd])), (hw, .inl (cI, 160, .inl M_25))]) (wr := []) (w1 := [(hm, .inr (3, [.int sc, .ref hw, .int (nI cn), .int (nI fu), .int lf_26, .int (bI dd_26), .int dn_26, .int rn, .int (bI tr), .int (nI lg), .ref he, .int me, .ref hd, .ref hen, .ref hnd])), (hw, .inl (cI, 160, .inl M_26))]) hP hD [0, 1] [] rfl rfl (by decide) (by decide) zk hFc hP1 hD1
        generalize H1 = H at hP hS ⊢
        have hP : va_P (dC, dI) classes [(hm, .inr (3, [.int sc, .ref hw, .int (nI cn), .int (nI fu), .int lf_26, .int (bI dd_26), .int dn_26, .int rn, .int (bI tr), .int (nI lg), .ref he, .int me, .ref hd, .ref hen, .ref hnd])), (hw, .inl (cI, 160, .inl M_26))] H := hP.sub [0, 1] rfl
        have hD : va_D A [(hm, .inr (3, [.int sc, .ref hw, .int (nI cn), .int (nI fu), .int lf_26, .int (bI dd_26), .int dn_26, .int rn, .int (bI tr), .int (nI lg), .ref he, .int me, .ref hd, .ref hen, .ref hnd])), (hw, .inl (cI, 160, .inl M_26))] := hD.sub [0, 1] (by decide) rfl
        clear hPc hDc hFc hP1 hD1 zk zz zvm zt
        exact W.vret hx hb hr (fun t ht hW => ⟨⟨(M_26, dd_26, dn_26, lf_26), rfl, (by simp only [mTab, hu_24, hu_25, hu_26]), by rw [ht]; exact hP, hD⟩, hS.F ht⟩) hS.2.2 d_Mo_table_116
      · exact absurd h_23 (by decide)
    · refine lv_iconst (v := (nI 2)) hx hb d_Mo_table_45 (by decide) ?_
      refine lv_iload_n hx hb d_Mo_table_46 rfl (lv_at hl 5 rfl) ?_
      refine lv_imul hx hb d_Mo_table_47 ?_
      refine tp (pk_mul _ _) ?_
      refine lv_bipush (v := (nI 8)) hx hb d_Mo_table_48 (by decide) ?_
      refine lv_iload hx hb d_Mo_table_50 (lv_at hl 0 rfl) ?_
      refine lv_imul hx hb d_Mo_table_52 ?_
      refine tp (pk_mul _ _) ?_
      refine lv_iadd hx hb d_Mo_table_53 ?_
      refine tp (nI_add _ _) ?_
      refine lv_goto (tgt := 66) hx hb d_Mo_table_54 (by decide) ?_
      refine lv_iadd hx hb d_Mo_table_66 ?_
      refine tp (nI_add _ _) ?_
      refine tp (y := nI (tbe k v g (stt (ety M) (1 - k)))) (by rw [tbe, if_pos h_22]) ?_
      refine lv_istore (lv' := [(7, .int (nI (tbe k v g (stt (ety M) (1 - k))))), (6, .int (nI (stt (ety M) (1 - k)))), (5, .int (srl M)), (4, .int (nI 1)), (0, .ref hm), (1, .int (nI k)), (2, .int (nI v)), (3, .int (nI g))]) hx hb d_Mo_table_67 hl (by decide) rfl (fun ls hl => ?_)
      refine lv_iload hx hb d_Mo_table_69 (lv_at hl 3 rfl) ?_
      refine nz_ne (tgt := 79) hx hb d_Mo_table_71 (by decide) (by decide) (fun h_27 => ?_) (fun h_27 => ?_)
      · refine lv_bipush (v := (nI 34)) hx hb d_Mo_table_79 (by decide) ?_
        refine tp (y := nI (plc M)) (plc_1 hc) ?_
        refine lv_istore (lv' := [(8, .int (nI (plc M))), (7, .int (nI (tbe k v g (stt (ety M) (1 - k))))), (6, .int (nI (stt (ety M) (1 - k)))), (5, .int (srl M)), (4, .int (nI 1)), (0, .ref hm), (1, .int (nI k)), (2, .int (nI v)), (3, .int (nI g))]) hx hb d_Mo_table_81 hl (by decide) rfl (fun ls hl => ?_)
        refine lv_aload_n hx hb d_Mo_table_83 rfl (lv_at hl 5 rfl) ?_
        refine lv_iload hx hb d_Mo_table_84 (lv_at hl 0 rfl) ?_
        refine lv_iload hx hb d_Mo_table_86 (lv_at hl 3 rfl) ?_
        have hPc := hP.sub (ws' := [(hm, .inr (3, [.int sc, .ref hw, .int (nI cn), .int (nI fu), .int lf, .int (bI dd), .int dn, .int rn, .int (bI tr), .int (nI lg), .ref he, .int me, .ref hd, .ref hen, .ref hnd])), (hw, .inl (cI, 160, .inl M))]) [0, 1] rfl
        have hDc := hD.sub (ws' := [(hm, .inr (3, [.int sc, .ref hw, .int (nI cn), .int (nI fu), .int lf, .int (bI dd), .int dn, .int rn, .int (bI tr), .int (nI lg), .ref he, .int me, .ref hd, .ref hen, .ref hnd])), (hw, .inl (cI, 160, .inl M))]) [0, 1] (by decide) rfl
        have hFc := va_free (wc := [(hm, .inr (3, [.int sc, .ref hw, .int (nI cn), .int (nI fu), .int lf, .int (bI dd), .int dn, .int rn, .int (bI tr), .int (nI lg), .ref he, .int me, .ref hd, .ref hen, .ref hnd])), (hw, .inl (cI, 160, .inl M))]) hD hS hA [0, 1] rfl
        refine va_callv (va_runV (As := [.int (nI (plc M)), .int (srl M)]) (rest := []) ⟨hx, hb, hml, hown, hts⟩ (c_Mo_put l dC dI cI (hm := hm) (k := plc M) (x := srl M) (sc := sc) (hw := hw) (cn := cn) (fu := fu) (lf := lf) (dd := dd) (dn := dn) (rn := rn) (tr := tr) (lg := lg) (he := he) (me := me) (hd := hd) (hen := hen) (hnd := hnd) (M := M) (hk := (by omega)) (sz := s.heap.size)) ⟨callB_of 2 hts (gd kw_555) rfl rfl rfl (hts _ kw_41) (hts _ kw_552) (by decide +kernel) ⟨Nat.le_of_ble_eq_true rfl, Nat.le_of_ble_eq_true rfl⟩, (hts _ kw_554), (hts _ kw_29)⟩ ⟨fun a U g mk q => by obtain ⟨q0, q1, qP, qK, qD⟩ := q; exact ⟨q0, q1, qP, qK.call, qD⟩, va_recv hK hP (ci := 3) rfl (q0 := 0) rfl, fun U hU hW => ⟨rfl, by rw [hU], by rw [hU]; exact hPc, hKN.warm hW, hDc.weaken (fun _ _ _ _ => trivial)⟩⟩ rfl rfl hl.1 rfl (lv_room (Nat.le_of_ble_eq_true rfl)) d_Mo_table_88 ⟨Nat.zero_le _, Nat.zero_le _⟩) hS (fun q _ h => hFc q h) hFc (fun u t H1 locs zt zvm zw zB zz zk hS => ?_)
        obtain ⟨M_28, dd_28, dn_28, lf_28⟩ := u
        have hu_28 := zw
        obtain ⟨hP1, hD1⟩ := zB
        rw [zt] at hP1
        have hP1 : va_P (dC, dI) classes [(hm, .inr (3, [.int sc, .ref hw, .int (nI cn), .int (nI fu), .int lf_28, .int (bI dd_28), .int dn_28, .int rn, .int (bI tr), .int (nI lg), .ref he, .int me, .ref hd, .ref hen, .ref hnd])), (hw, .inl (cI, 160, .inl M_28))] H1 := hP1
        obtain ⟨hP, hD⟩ := va_join (wc := [(hm, .inr (3, [.int sc, .ref hw, .int (nI cn), .int (nI fu), .int lf, .int (bI dd), .int dn, .int rn, .int (bI tr), .int (nI lg), .ref he, .int me, .ref hd, .ref hen, .ref hnd])), (hw, .inl (cI, 160, .inl M))]) (wr := []) (w1 := [(hm, .inr (3, [.int sc, .ref hw, .int (nI cn), .int (nI fu), .int lf_28, .int (bI dd_28), .int dn_28, .int rn, .int (bI tr), .int (nI lg), .ref he, .int me, .ref hd, .ref hen, .ref hnd])), (hw, .inl (cI, 160, .inl M_28))]) hP hD [0, 1] [] rfl rfl (by decide) (by decide) zk hFc hP1 hD1
        generalize H1 = H at hP hS ⊢
        have hP : va_P (dC, dI) classes [(hm, .inr (3, [.int sc, .ref hw, .int (nI cn), .int (nI fu), .int lf_28, .int (bI dd_28), .int dn_28, .int rn, .int (bI tr), .int (nI lg), .ref he, .int me, .ref hd, .ref hen, .ref hnd])), (hw, .inl (cI, 160, .inl M_28))] H := hP.sub [0, 1] rfl
        have hD : va_D A [(hm, .inr (3, [.int sc, .ref hw, .int (nI cn), .int (nI fu), .int lf_28, .int (bI dd_28), .int dn_28, .int rn, .int (bI tr), .int (nI lg), .ref he, .int me, .ref hd, .ref hen, .ref hnd])), (hw, .inl (cI, 160, .inl M_28))] := hD.sub [0, 1] (by decide) rfl
        clear hPc hDc hFc hP1 hD1 zk zz zvm zt
        refine lv_aload_n hx hb d_Mo_table_91 rfl (lv_at hl 5 rfl) ?_
        refine lv_iload hx hb d_Mo_table_92 (lv_at hl 0 rfl) ?_
        refine lv_iconst (v := (nI 1)) hx hb d_Mo_table_94 (by decide) ?_
        refine lv_iadd hx hb d_Mo_table_95 ?_
        refine tp (nI_add _ _) ?_
        refine lv_iload hx hb d_Mo_table_96 (lv_at hl 1 rfl) ?_
        have hPc := hP.sub (ws' := [(hm, .inr (3, [.int sc, .ref hw, .int (nI cn), .int (nI fu), .int lf_28, .int (bI dd_28), .int dn_28, .int rn, .int (bI tr), .int (nI lg), .ref he, .int me, .ref hd, .ref hen, .ref hnd])), (hw, .inl (cI, 160, .inl M_28))]) [0, 1] rfl
        have hDc := hD.sub (ws' := [(hm, .inr (3, [.int sc, .ref hw, .int (nI cn), .int (nI fu), .int lf_28, .int (bI dd_28), .int dn_28, .int rn, .int (bI tr), .int (nI lg), .ref he, .int me, .ref hd, .ref hen, .ref hnd])), (hw, .inl (cI, 160, .inl M_28))]) [0, 1] (by decide) rfl
        have hFc := va_free (wc := [(hm, .inr (3, [.int sc, .ref hw, .int (nI cn), .int (nI fu), .int lf_28, .int (bI dd_28), .int dn_28, .int rn, .int (bI tr), .int (nI lg), .ref he, .int me, .ref hd, .ref hen, .ref hnd])), (hw, .inl (cI, 160, .inl M_28))]) hD hS hA [0, 1] rfl
        refine va_callv (va_runV (As := [.int (nI ((plc M) + 1)), .int (nI (tbe k v g (stt (ety M) (1 - k))))]) (rest := []) ⟨hx, hb, hml, hown, hts⟩ (c_Mo_put l dC dI cI (hm := hm) (k := (plc M) + 1) (x := (nI (tbe k v g (stt (ety M) (1 - k))))) (sc := sc) (hw := hw) (cn := cn) (fu := fu) (lf := lf_28) (dd := dd_28) (dn := dn_28) (rn := rn) (tr := tr) (lg := lg) (he := he) (me := me) (hd := hd) (hen := hen) (hnd := hnd) (M := M_28) (hk := (by omega)) (sz := H.size)) ⟨callB_of 2 hts (gd kw_555) rfl rfl rfl (hts _ kw_41) (hts _ kw_552) (by decide +kernel) ⟨Nat.le_of_ble_eq_true rfl, Nat.le_of_ble_eq_true rfl⟩, (hts _ kw_554), (hts _ kw_29)⟩ ⟨fun a U g mk q => by obtain ⟨q0, q1, qP, qK, qD⟩ := q; exact ⟨q0, q1, qP, qK.call, qD⟩, va_recv hK hP (ci := 3) rfl (q0 := 0) rfl, fun U hU hW => ⟨rfl, by rw [hU], by rw [hU]; exact hPc, hKN.warm hW, hDc.weaken (fun _ _ _ _ => trivial)⟩⟩ rfl rfl hl.1 rfl (lv_room (Nat.le_of_ble_eq_true rfl)) d_Mo_table_98 ⟨Nat.zero_le _, Nat.zero_le _⟩) hS (fun q _ h => hFc q h) hFc (fun u t H1 locs zt zvm zw zB zz zk hS => ?_)
        obtain ⟨M_29, dd_29, dn_29, lf_29⟩ := u
        have hu_29 := zw
        obtain ⟨hP1, hD1⟩ := zB
        rw [zt] at hP1
        have hP1 : va_P (dC, dI) classes [(hm, .inr (3, [.int sc, .ref hw, .int (nI cn), .int (nI fu), .int lf_29, .int (bI dd_29), .int dn_29, .int rn, .int (bI tr), .int (nI lg), .ref he, .int me, .ref hd, .ref hen, .ref hnd])), (hw, .inl (cI, 160, .inl M_29))] H1 := hP1
        obtain ⟨hP, hD⟩ := va_join (wc := [(hm, .inr (3, [.int sc, .ref hw, .int (nI cn), .int (nI fu), .int lf_28, .int (bI dd_28), .int dn_28, .int rn, .int (bI tr), .int (nI lg), .ref he, .int me, .ref hd, .ref hen, .ref hnd])), (hw, .inl (cI, 160, .inl M_28))]) (wr := []) (w1 := [(hm, .inr (3, [.int sc, .ref hw, .int (nI cn), .int (nI fu), .int lf_29, .int (bI dd_29), .int dn_29, .int rn, .int (bI tr), .int (nI lg), .ref he, .int me, .ref hd, .ref hen, .ref hnd])), (hw, .inl (cI, 160, .inl M_29))]) hP hD [0, 1] [] rfl rfl (by decide) (by decide) zk hFc hP1 hD1
        generalize H1 = H at hP hS ⊢
        have hP : va_P (dC, dI) classes [(hm, .inr (3, [.int sc, .ref hw, .int (nI cn), .int (nI fu), .int lf_29, .int (bI dd_29), .int dn_29, .int rn, .int (bI tr), .int (nI lg), .ref he, .int me, .ref hd, .ref hen, .ref hnd])), (hw, .inl (cI, 160, .inl M_29))] H := hP.sub [0, 1] rfl
        have hD : va_D A [(hm, .inr (3, [.int sc, .ref hw, .int (nI cn), .int (nI fu), .int lf_29, .int (bI dd_29), .int dn_29, .int rn, .int (bI tr), .int (nI lg), .ref he, .int me, .ref hd, .ref hen, .ref hnd])), (hw, .inl (cI, 160, .inl M_29))] := hD.sub [0, 1] (by decide) rfl
        clear hPc hDc hFc hP1 hD1 zk zz zvm zt
        refine lv_aload_n hx hb d_Mo_table_101 rfl (lv_at hl 5 rfl) ?_
        refine lv_iload hx hb d_Mo_table_102 (lv_at hl 0 rfl) ?_
        refine lv_iconst (v := (nI 2)) hx hb d_Mo_table_104 (by decide) ?_
        refine lv_iadd hx hb d_Mo_table_105 ?_
        refine tp (nI_add _ _) ?_
        refine lv_iload hx hb d_Mo_table_106 (lv_at hl 3 rfl) ?_
        refine lv_iload hx hb d_Mo_table_108 (lv_at hl 1 rfl) ?_
        refine pr_call (va_runS (As := [.int (srl M), .int (nI (tbe k v g (stt (ety M) (1 - k))))]) (rest := [.int (nI ((plc M) + 2)), .ref hm]) ⟨hx, hb, hml, hown, hts⟩ (c_Mo_check l dC dI cI (a := srl M) (b := (nI (tbe k v g (stt (ety M) (1 - k))))) ) ⟨callB_of 2 hts (gd kw_438) rfl rfl rfl (hts _ kw_41) (hts _ kw_436) (by decide +kernel) ⟨Nat.le_of_ble_eq_true rfl, Nat.le_of_ble_eq_true rfl⟩, (hts _ kw_437)⟩ ⟨fun a U g mk q => by obtain ⟨q0, qP, qK⟩ := q; exact ⟨q0, qP, qK.call⟩, fun U hU hW => ⟨rfl, by rw [hU]; exact hP.sub [] rfl, hKN.warm hW⟩⟩ rfl rfl hl.1 rfl (lv_room (Nat.le_of_ble_eq_true rfl)) d_Mo_table_110 ⟨Nat.zero_le _, Nat.zero_le _⟩) ?_
        have hPc := hP.sub (ws' := [(hm, .inr (3, [.int sc, .ref hw, .int (nI cn), .int (nI fu), .int lf_29, .int (bI dd_29), .int dn_29, .int rn, .int (bI tr), .int (nI lg), .ref he, .int me, .ref hd, .ref hen, .ref hnd])), (hw, .inl (cI, 160, .inl M_29))]) [0, 1] rfl
        have hDc := hD.sub (ws' := [(hm, .inr (3, [.int sc, .ref hw, .int (nI cn), .int (nI fu), .int lf_29, .int (bI dd_29), .int dn_29, .int rn, .int (bI tr), .int (nI lg), .ref he, .int me, .ref hd, .ref hen, .ref hnd])), (hw, .inl (cI, 160, .inl M_29))]) [0, 1] (by decide) rfl
        have hFc := va_free (wc := [(hm, .inr (3, [.int sc, .ref hw, .int (nI cn), .int (nI fu), .int lf_29, .int (bI dd_29), .int dn_29, .int rn, .int (bI tr), .int (nI lg), .ref he, .int me, .ref hd, .ref hen, .ref hnd])), (hw, .inl (cI, 160, .inl M_29))]) hD hS hA [0, 1] rfl
        refine va_callv (va_runV (As := [.int (nI ((plc M) + 2)), .int (ck (srl M) (nI (tbe k v g (stt (ety M) (1 - k)))))]) (rest := []) ⟨hx, hb, hml, hown, hts⟩ (c_Mo_put l dC dI cI (hm := hm) (k := (plc M) + 2) (x := ck (srl M) (nI (tbe k v g (stt (ety M) (1 - k))))) (sc := sc) (hw := hw) (cn := cn) (fu := fu) (lf := lf_29) (dd := dd_29) (dn := dn_29) (rn := rn) (tr := tr) (lg := lg) (he := he) (me := me) (hd := hd) (hen := hen) (hnd := hnd) (M := M_29) (hk := (by omega)) (sz := H.size)) ⟨callB_of 2 hts (gd kw_555) rfl rfl rfl (hts _ kw_41) (hts _ kw_552) (by decide +kernel) ⟨Nat.le_of_ble_eq_true rfl, Nat.le_of_ble_eq_true rfl⟩, (hts _ kw_554), (hts _ kw_29)⟩ ⟨fun a U g mk q => by obtain ⟨q0, q1, qP, qK, qD⟩ := q; exact ⟨q0, q1, qP, qK.call, qD⟩, va_recv hK hP (ci := 3) rfl (q0 := 0) rfl, fun U hU hW => ⟨rfl, by rw [hU], by rw [hU]; exact hPc, hKN.warm hW, hDc.weaken (fun _ _ _ _ => trivial)⟩⟩ rfl rfl hl.1 rfl (lv_room (Nat.le_of_ble_eq_true rfl)) d_Mo_table_113 ⟨Nat.zero_le _, Nat.zero_le _⟩) hS (fun q _ h => hFc q h) hFc (fun u t H1 locs zt zvm zw zB zz zk hS => ?_)
        obtain ⟨M_30, dd_30, dn_30, lf_30⟩ := u
        have hu_30 := zw
        obtain ⟨hP1, hD1⟩ := zB
        rw [zt] at hP1
        have hP1 : va_P (dC, dI) classes [(hm, .inr (3, [.int sc, .ref hw, .int (nI cn), .int (nI fu), .int lf_30, .int (bI dd_30), .int dn_30, .int rn, .int (bI tr), .int (nI lg), .ref he, .int me, .ref hd, .ref hen, .ref hnd])), (hw, .inl (cI, 160, .inl M_30))] H1 := hP1
        obtain ⟨hP, hD⟩ := va_join (wc := [(hm, .inr (3, [.int sc, .ref hw, .int (nI cn), .int (nI fu), .int lf_29, .int (bI dd_29), .int dn_29, .int rn, .int (bI tr), .int (nI lg), .ref he, .int me, .ref hd, .ref hen, .ref hnd])), (hw, .inl (cI, 160, .inl M_29))]) (wr := []) (w1 := [(hm, .inr (3, [.int sc, .ref hw, .int (nI cn), .int (nI fu), .int lf_30, .int (bI dd_30), .int dn_30, .int rn, .int (bI tr), .int (nI lg), .ref he, .int me, .ref hd, .ref hen, .ref hnd])), (hw, .inl (cI, 160, .inl M_30))]) hP hD [0, 1] [] rfl rfl (by decide) (by decide) zk hFc hP1 hD1
        generalize H1 = H at hP hS ⊢
        have hP : va_P (dC, dI) classes [(hm, .inr (3, [.int sc, .ref hw, .int (nI cn), .int (nI fu), .int lf_30, .int (bI dd_30), .int dn_30, .int rn, .int (bI tr), .int (nI lg), .ref he, .int me, .ref hd, .ref hen, .ref hnd])), (hw, .inl (cI, 160, .inl M_30))] H := hP.sub [0, 1] rfl
        have hD : va_D A [(hm, .inr (3, [.int sc, .ref hw, .int (nI cn), .int (nI fu), .int lf_30, .int (bI dd_30), .int dn_30, .int rn, .int (bI tr), .int (nI lg), .ref he, .int me, .ref hd, .ref hen, .ref hnd])), (hw, .inl (cI, 160, .inl M_30))] := hD.sub [0, 1] (by decide) rfl
        clear hPc hDc hFc hP1 hD1 zk zz zvm zt
        exact W.vret hx hb hr (fun t ht hW => ⟨⟨(M_30, dd_30, dn_30, lf_30), rfl, (by simp only [mTab, hu_28, hu_29, hu_30]), by rw [ht]; exact hP, hD⟩, hS.F ht⟩) hS.2.2 d_Mo_table_116
      · exact absurd h_27 (by decide)
set_option maxHeartbeats 4000000 in
set_option maxRecDepth 100000 in
theorem c_Mo_blow (l : Launch) (dC : Nat → ClassId) (dI : Nat → Nat → Nat) (cI : ClassId) (hm : Nat) (v : Int32) (sc : Int32) (hw : Nat) (cn : Nat) (fu : Nat) (lf : Int32) (dd : Bool) (dn : Int32) (rn : Int32) (tr : Bool) (lg : Nat) (he : Nat) (me : Int32) (hd : Nat) (hen : Nat) (hnd : Nat) (hfu : fu ≤ 32) (sz : Nat) : Met l y_Mo_blow w_Mo_blow ({ frames := 1, cells := 0, slots := 0, locals := 20 }) (va_Pc [.ref hm, .int v] (fun U => U.heap.size = sz ∧ va_P (dC, dI) classes [(hm, .inr (3, [.int sc, .ref hw, .int (nI cn), .int (nI fu), .int lf, .int (bI dd), .int dn, .int rn, .int (bI tr), .int (nI lg), .ref he, .int me, .ref hd, .ref hen, .ref hnd]))] U.heap ∧ KN dC dI cI U ∧ va_D (fun _ => True) [(hm, .inr (3, [.int sc, .ref hw, .int (nI cn), .int (nI fu), .int lf, .int (bI dd), .int dn, .int rn, .int (bI tr), .int (nI lg), .ref he, .int me, .ref hd, .ref hen, .ref hnd]))])) (va_Qv (fun u : Nat × Bool × Int32 × Int32 => mBl v 32 (fu, dd, dn, lf) = u) (fun (u : Nat × Bool × Int32 × Int32) t => va_P (dC, dI) classes [(hm, .inr (3, [.int sc, .ref hw, .int (nI cn), .int (nI u.1), .int u.2.2.2, .int (bI u.2.1), .int u.2.2.1, .int rn, .int (bI tr), .int (nI lg), .ref he, .int me, .ref hd, .ref hen, .ref hnd]))] t.heap ∧ va_D (va_A [(hm, .inr (3, [.int sc, .ref hw, .int (nI cn), .int (nI fu), .int lf, .int (bI dd), .int dn, .int rn, .int (bI tr), .int (nI lg), .ref he, .int me, .ref hd, .ref hen, .ref hnd]))] sz) [(hm, .inr (3, [.int sc, .ref hw, .int (nI cn), .int (nI u.1), .int u.2.2.2, .int (bI u.2.1), .int u.2.2.1, .int rn, .int (bI tr), .int (nI lg), .ref he, .int me, .ref hd, .ref hen, .ref hnd]))]) (va_A [(hm, .inr (3, [.int sc, .ref hw, .int (nI cn), .int (nI fu), .int lf, .int (bI dd), .int dn, .int rn, .int (bI tr), .int (nI lg), .ref he, .int me, .ref hd, .ref hen, .ref hnd]))] sz)) 0 0 (va_A [(hm, .inr (3, [.int sc, .ref hw, .int (nI cn), .int (nI fu), .int lf, .int (bI dd), .int dn, .int rn, .int (bI tr), .int (nI lg), .ref he, .int me, .ref hd, .ref hen, .ref hnd]))] sz) := by
  refine Met.ofW (cc := b_Mo_blow) (maxL := 3) (ret := none) (by decide) rfl ?_
  intro p e s m args below meth c s₁ B hml hv
  obtain ⟨rfl, hsz, hP, hKN, hD0⟩ := hv
  have hK := hKN.1
  have hx := B.exec
  have hb := B.bytes
  have hr := B.returns
  have hts := fun (w : Cond) (h : w ∈ gt) => atoms_spec (ws := w_Mo_blow) B.pre w (List.mem_cons_of_mem _ h)
  have hown : s.vm.findClass R_Mo = some m.cls := findClass_of_methodNamed B.named
  have hlocks := B.notSynchronized
  subst hsz
  have hD := hD0.self (sz := s.heap.size)
  generalize hAe : va_A [(hm, .inr (3, [.int sc, .ref hw, .int (nI cn), .int (nI fu), .int lf, .int (bI dd), .int dn, .int rn, .int (bI tr), .int (nI lg), .ref he, .int me, .ref hd, .ref hen, .ref hnd]))] s.heap.size = A at hD ⊢
  have hA : ∀ q : Nat, s.heap.size ≤ q → A q := fun q h => by rw [← hAe]; exact Or.inr h
  have hS : va_S A s.heap s.heap [] := va_S.rf
  have hP : va_P (dC, dI) classes [(hm, .inr (3, [.int sc, .ref hw, .int (nI cn), .int (nI fu), .int lf, .int (bI dd), .int dn, .int rn, .int (bI tr), .int (nI lg), .ref he, .int me, .ref hd, .ref hen, .ref hnd]))] s.heap := hP
  clear hAe hD0
  have hl := lv_entry ([.ref hm, .int v]) (n := 3) (Nat.le_of_ble_eq_true rfl)
  rw [lg_entry_eq]
  generalize (lg_sl ([.ref hm, .int v]) ++ List.replicate (3 - (lg_sl ([.ref hm, .int v])).length) Slot.unset).toArray = ls at hl ⊢
  have hl : lv_has ls 3 [(0, .ref hm), (1, .int v)] := hl
  refine lv_iconst (v := (nI 0)) hx hb d_Mo_blow_0 (by decide) ?_
  refine lv_istore_n (lv' := [(2, .int (nI 0)), (0, .ref hm), (1, .int v)]) hx hb d_Mo_blow_1 rfl hl (by decide) rfl (fun ls hl => ?_)
  refine wloop (ι := Nat × Nat × Bool × Int32 × Int32) (fun i => 32 - (i.1)) (fun i ls H locs => ((i.1) ≤ 32 ∧ (i.2.1) ≤ 32 ∧ mBl v 32 (fu, dd, dn, lf) = mBl v (32 - (i.1)) ((i.2.1), (i.2.2.1), (i.2.2.2.1), (i.2.2.2.2))) ∧ lv_has ls 3 [(2, .int (nI (i.1))), (0, .ref hm), (1, .int v)] ∧ va_P (dC, dI) classes [(hm, .inr (3, [.int sc, .ref hw, .int (nI cn), .int (nI (i.2.1)), .int (i.2.2.2.2), .int (bI (i.2.2.1)), .int (i.2.2.2.1), .int rn, .int (bI tr), .int (nI lg), .ref he, .int me, .ref hd, .ref hen, .ref hnd]))] H ∧ va_D A [(hm, .inr (3, [.int sc, .ref hw, .int (nI cn), .int (nI (i.2.1)), .int (i.2.2.2.2), .int (bI (i.2.2.1)), .int (i.2.2.2.1), .int rn, .int (bI tr), .int (nI lg), .ref he, .int me, .ref hd, .ref hen, .ref hnd]))] ∧ va_S A s.heap H locs) ?_ (0, fu, dd, dn, lf) ⟨⟨by omega, hfu, rfl⟩, hl, hP, hD, hS⟩
  clear hl hP hD hS
  rintro ⟨k, fu2, dd2, dn2, lf2⟩ ls H locs ⟨hinv, hl, hP, hD, hS⟩ ih
  dsimp only at hinv hl ih hP hD
  refine lv_iload_n hx hb d_Mo_blow_2 rfl (lv_at hl 0 rfl) ?_
  refine lv_bipush (v := (nI 32)) hx hb d_Mo_blow_3 (by decide) ?_
  refine nb_ge (tgt := 48) hx hb d_Mo_blow_5 (by decide) (by first | omega | exact Nat.lt_of_lt_of_le (stt_lt _ _) (by decide)) (by first | omega | exact Nat.lt_of_lt_of_le (stt_lt _ _) (by decide)) (fun h_1 => ?_) (fun h_1 => ?_)
  · exact W.vret hx hb hr (fun t ht hW => ⟨⟨(fu2, dd2, dn2, lf2), rfl, (by rw [hinv.2.2, show 32 - k = 0 by omega, mBl]), by rw [ht]; exact hP, hD⟩, hS.F ht⟩) hS.2.2 d_Mo_blow_48
  · refine lv_aload_n hx hb d_Mo_blow_8 rfl (lv_at hl 1 rfl) ?_
    refine va_get (D := (dC, dI)) (ci := 3) (v := .int (nI fu2)) (C := R_Mo) (T := F_Mo) (N := 15) hx hb hts in_Mo hown hK hP 0 rfl rfl 3 (by decide) (hts _ kw_442) (fun _ h9 => h9) rfl d_Mo_blow_9 ?_
    refine lv_iload_n hx hb d_Mo_blow_12 rfl (lv_at hl 2 rfl) ?_
    refine lv_icmp_ge (tgt := 42) hx hb d_Mo_blow_13 (by decide) (fun h_2 => ?_) (fun h_2 => ?_)
    · refine lv_iinc (k := 0) (v := (nI (k + 1))) (lv' := [(2, .int (nI (k + 1))), (0, .ref hm), (1, .int v)]) hx hb d_Mo_blow_42 hl rfl (nI_inc _) (by decide) rfl (fun ls hl => ?_)
      refine lv_goto (tgt := 2) hx hb d_Mo_blow_45 (by decide) ?_
      exact ih (k + 1, fu2, dd2, dn2, lf2) ls H locs (by show 32 - (k + 1) < 32 - k; omega) ⟨⟨by (try dsimp only); omega, by (try dsimp only); omega, by rw [hinv.2.2, show 32 - k = (32 - (k + 1)) + 1 by omega, mBl]; simp only [mBs, if_pos h_2]⟩, hl, hP, hD, hS⟩
    · refine lv_aload_n hx hb d_Mo_blow_16 rfl (lv_at hl 1 rfl) ?_
      refine va_get (D := (dC, dI)) (ci := 3) (v := .int (nI fu2)) (C := R_Mo) (T := F_Mo) (N := 15) hx hb hts in_Mo hown hK hP 0 rfl rfl 3 (by decide) (hts _ kw_442) (fun _ h9 => h9) rfl d_Mo_blow_17 ?_
      refine lv_bipush (v := (nI 32)) hx hb d_Mo_blow_20 (by decide) ?_
      refine nb_ge (tgt := 42) hx hb d_Mo_blow_22 (by decide) (by first | omega | exact Nat.lt_of_lt_of_le (stt_lt _ _) (by decide)) (by first | omega | exact Nat.lt_of_lt_of_le (stt_lt _ _) (by decide)) (fun h_3 => ?_) (fun h_3 => ?_)
      · refine lv_iinc (k := 0) (v := (nI (k + 1))) (lv' := [(2, .int (nI (k + 1))), (0, .ref hm), (1, .int v)]) hx hb d_Mo_blow_42 hl rfl (nI_inc _) (by decide) rfl (fun ls hl => ?_)
        refine lv_goto (tgt := 2) hx hb d_Mo_blow_45 (by decide) ?_
        exact ih (k + 1, fu2, dd2, dn2, lf2) ls H locs (by show 32 - (k + 1) < 32 - k; omega) ⟨⟨by (try dsimp only); omega, by (try dsimp only); omega, by rw [hinv.2.2, show 32 - k = (32 - (k + 1)) + 1 by omega, mBl]; simp only [mBs, if_neg h_2, if_pos h_3]⟩, hl, hP, hD, hS⟩
      · refine lv_aload_n hx hb d_Mo_blow_25 rfl (lv_at hl 1 rfl) ?_
        have hPc := hP.sub (ws' := [(hm, .inr (3, [.int sc, .ref hw, .int (nI cn), .int (nI fu2), .int lf2, .int (bI dd2), .int dn2, .int rn, .int (bI tr), .int (nI lg), .ref he, .int me, .ref hd, .ref hen, .ref hnd]))]) [0] rfl
        have hDc := hD.sub (ws' := [(hm, .inr (3, [.int sc, .ref hw, .int (nI cn), .int (nI fu2), .int lf2, .int (bI dd2), .int dn2, .int rn, .int (bI tr), .int (nI lg), .ref he, .int me, .ref hd, .ref hen, .ref hnd]))]) [0] (by decide) rfl
        have hFc := va_free (wc := [(hm, .inr (3, [.int sc, .ref hw, .int (nI cn), .int (nI fu2), .int lf2, .int (bI dd2), .int dn2, .int rn, .int (bI tr), .int (nI lg), .ref he, .int me, .ref hd, .ref hen, .ref hnd]))]) hD hS hA [0] rfl
        refine va_calli (va_runV (As := []) (rest := []) ⟨hx, hb, hml, hown, hts⟩ (c_Mo_may l dC dI cI (hm := hm) (sc := sc) (hw := hw) (cn := cn) (fu := fu2) (lf := lf2) (dd := dd2) (dn := dn2) (rn := rn) (tr := tr) (lg := lg) (he := he) (me := me) (hd := hd) (hen := hen) (hnd := hnd)  (sz := H.size)) ⟨callB_of 0 hts (gd kw_559) rfl rfl rfl (hts _ kw_41) (hts _ kw_556) (by decide +kernel) ⟨Nat.le_of_ble_eq_true rfl, Nat.le_of_ble_eq_true rfl⟩, (hts _ kw_558), (hts _ kw_30)⟩ ⟨fun a U g mk q => by obtain ⟨q0, q1, qP, qK, qD⟩ := q; exact ⟨q0, q1, qP, qK.call, qD⟩, va_recv hK hP (ci := 3) rfl (q0 := 0) rfl, fun U hU hW => ⟨rfl, by rw [hU], by rw [hU]; exact hPc, hKN.warm hW, hDc.weaken (fun _ _ _ _ => trivial)⟩⟩ rfl rfl hl.1 rfl (lv_room (Nat.le_of_ble_eq_true rfl)) d_Mo_blow_26 ⟨Nat.zero_le _, Nat.zero_le _⟩) hS (fun q _ h => hFc q h) hFc (fun r u t H1 locs zt zvm zw zB zz zk hS => ?_)
        obtain ⟨dd_4, dn_4, lf_4⟩ := u
        obtain ⟨b_4, rfl, hu_4⟩ := zw
        obtain ⟨hP1, hD1⟩ := zB
        rw [zt] at hP1
        have hP1 : va_P (dC, dI) classes [(hm, .inr (3, [.int sc, .ref hw, .int (nI cn), .int (nI fu2), .int lf_4, .int (bI dd_4), .int dn_4, .int rn, .int (bI tr), .int (nI lg), .ref he, .int me, .ref hd, .ref hen, .ref hnd]))] H1 := hP1
        obtain ⟨hP, hD⟩ := va_join (wc := [(hm, .inr (3, [.int sc, .ref hw, .int (nI cn), .int (nI fu2), .int lf2, .int (bI dd2), .int dn2, .int rn, .int (bI tr), .int (nI lg), .ref he, .int me, .ref hd, .ref hen, .ref hnd]))]) (wr := []) (w1 := [(hm, .inr (3, [.int sc, .ref hw, .int (nI cn), .int (nI fu2), .int lf_4, .int (bI dd_4), .int dn_4, .int rn, .int (bI tr), .int (nI lg), .ref he, .int me, .ref hd, .ref hen, .ref hnd]))]) hP hD [0] [] rfl rfl (by decide) (by decide) zk hFc hP1 hD1
        generalize H1 = H at hP hS ⊢
        have hP : va_P (dC, dI) classes [(hm, .inr (3, [.int sc, .ref hw, .int (nI cn), .int (nI fu2), .int lf_4, .int (bI dd_4), .int dn_4, .int rn, .int (bI tr), .int (nI lg), .ref he, .int me, .ref hd, .ref hen, .ref hnd]))] H := hP.sub [0] rfl
        have hD : va_D A [(hm, .inr (3, [.int sc, .ref hw, .int (nI cn), .int (nI fu2), .int lf_4, .int (bI dd_4), .int dn_4, .int rn, .int (bI tr), .int (nI lg), .ref he, .int me, .ref hd, .ref hen, .ref hnd]))] := hD.sub [0] (by decide) rfl
        clear hPc hDc hFc hP1 hD1 zk zz zvm zt
        refine bz_eq (tgt := 42) hx hb d_Mo_blow_29 (by decide) (fun h_5 => ?_) (fun h_5 => ?_)
        · subst h_5
          refine lv_iinc (k := 0) (v := (nI (k + 1))) (lv' := [(2, .int (nI (k + 1))), (0, .ref hm), (1, .int v)]) hx hb d_Mo_blow_42 hl rfl (nI_inc _) (by decide) rfl (fun ls hl => ?_)
          refine lv_goto (tgt := 2) hx hb d_Mo_blow_45 (by decide) ?_
          exact ih (k + 1, fu2, dd_4, dn_4, lf_4) ls H locs (by show 32 - (k + 1) < 32 - k; omega) ⟨⟨by (try dsimp only); omega, by (try dsimp only); omega, by rw [hinv.2.2, show 32 - k = (32 - (k + 1)) + 1 by omega, mBl]; simp only [mBs, if_neg h_2, if_neg h_3, hu_4]⟩, hl, hP, hD, hS⟩
        · subst h_5
          refine lv_aload_n hx hb d_Mo_blow_32 rfl (lv_at hl 1 rfl) ?_
          refine lv_dup hx hb d_Mo_blow_33 rfl ?_
          refine va_get (D := (dC, dI)) (ci := 3) (v := .int (nI fu2)) (C := R_Mo) (T := F_Mo) (N := 15) hx hb hts in_Mo hown hK hP 0 rfl rfl 3 (by decide) (hts _ kw_442) (fun _ h9 => h9) rfl d_Mo_blow_34 ?_
          refine lv_iconst (v := (nI 1)) hx hb d_Mo_blow_37 (by decide) ?_
          refine lv_iadd hx hb d_Mo_blow_38 ?_
          refine tp (nI_add _ _) ?_
          refine va_put (D := (dC, dI)) (ci := 3) (v := .int (nI (fu2 + 1))) (ty := .int) (C := R_Mo) (T := F_Mo) (N := 15) hx hb hts in_Mo t_Mo t_Mo_ok n_Mo hown hK hP hD hS 0 rfl rfl 3 (by decide) (hts _ kw_442) (fun _ h9 => h9) rfl (by decide +kernel) rfl rfl (Nat.le_of_ble_eq_true rfl) d_Mo_blow_39 (fun H locs hP hD hS => ?_)
          have hP : va_P (dC, dI) classes [(hm, .inr (3, [.int sc, .ref hw, .int (nI cn), .int (nI (fu2 + 1)), .int lf_4, .int (bI dd_4), .int dn_4, .int rn, .int (bI tr), .int (nI lg), .ref he, .int me, .ref hd, .ref hen, .ref hnd]))] H := hP
          have hD : va_D A [(hm, .inr (3, [.int sc, .ref hw, .int (nI cn), .int (nI (fu2 + 1)), .int lf_4, .int (bI dd_4), .int dn_4, .int rn, .int (bI tr), .int (nI lg), .ref he, .int me, .ref hd, .ref hen, .ref hnd]))] := hD
          refine lv_iinc (k := 0) (v := (nI (k + 1))) (lv' := [(2, .int (nI (k + 1))), (0, .ref hm), (1, .int v)]) hx hb d_Mo_blow_42 hl rfl (nI_inc _) (by decide) rfl (fun ls hl => ?_)
          refine lv_goto (tgt := 2) hx hb d_Mo_blow_45 (by decide) ?_
          exact ih (k + 1, fu2 + 1, dd_4, dn_4, lf_4) ls H locs (by show 32 - (k + 1) < 32 - k; omega) ⟨⟨by (try dsimp only); omega, by (try dsimp only); omega, by rw [hinv.2.2, show 32 - k = (32 - (k + 1)) + 1 by omega, mBl]; simp only [mBs, if_neg h_2, if_neg h_3, hu_4]⟩, hl, hP, hD, hS⟩
set_option maxHeartbeats 4000000 in
set_option maxRecDepth 100000 in
theorem c_Mo_attempt (l : Launch) (dC : Nat → ClassId) (dI : Nat → Nat → Nat) (cI : ClassId) (hm : Nat) (k : Nat) (sc : Int32) (hw : Nat) (cn : Nat) (fu : Nat) (lf : Int32) (dd : Bool) (dn : Int32) (rn : Int32) (tr : Bool) (lg : Nat) (he : Nat) (me : Int32) (hd : Nat) (hen : Nat) (hnd : Nat) (M : Nat → Int32) (en : Nat → Int32) (dg : Nat → Int32) (ed : Nat → Int32) (nd : Nat → Int32) (hk : k < 2) (hfu : fu ≤ 32) (sz : Nat) : Met l y_Mo_attempt w_Mo_attempt ({ frames := 6, cells := 0, slots := 0, locals := 140 }) (va_Pc [.ref hm, .int (nI k)] (fun U => U.heap.size = sz ∧ va_P (dC, dI) classes [(hm, .inr (3, [.int sc, .ref hw, .int (nI cn), .int (nI fu), .int lf, .int (bI dd), .int dn, .int rn, .int (bI tr), .int (nI lg), .ref he, .int me, .ref hd, .ref hen, .ref hnd])), (hw, .inl (cI, 160, .inl M)), (he, .inl (cI, 3, .inl en)), (hd, .inl (cI, 6, .inl dg)), (hen, .inl (cI, 6, .inl ed)), (hnd, .inl (cI, 16, .inl nd))] U.heap ∧ KN dC dI cI U ∧ va_D (fun _ => True) [(hm, .inr (3, [.int sc, .ref hw, .int (nI cn), .int (nI fu), .int lf, .int (bI dd), .int dn, .int rn, .int (bI tr), .int (nI lg), .ref he, .int me, .ref hd, .ref hen, .ref hnd])), (hw, .inl (cI, 160, .inl M)), (he, .inl (cI, 3, .inl en)), (hd, .inl (cI, 6, .inl dg)), (hen, .inl (cI, 6, .inl ed)), (hnd, .inl (cI, 16, .inl nd))])) (va_Qi (fun (r : Int32) (u : Nat × Int32 × (Nat → Int32) × (Nat → Int32) × (Nat → Int32) × (Nat → Int32)) => ∃ res : Bool, r = bI res ∧ (att (fun i => M (17 * k + i)) fu (root sc) en = (res, u.2.2.1, u.1, u.2.1))) (fun (u : Nat × Int32 × (Nat → Int32) × (Nat → Int32) × (Nat → Int32) × (Nat → Int32)) t => va_P (dC, dI) classes [(hm, .inr (3, [.int sc, .ref hw, .int (nI cn), .int (nI fu), .int lf, .int (bI dd), .int dn, .int rn, .int (bI tr), .int (nI u.1), .ref he, .int u.2.1, .ref hd, .ref hen, .ref hnd])), (hw, .inl (cI, 160, .inl M)), (he, .inl (cI, 3, .inl u.2.2.1)), (hd, .inl (cI, 6, .inl u.2.2.2.1)), (hen, .inl (cI, 6, .inl u.2.2.2.2.1)), (hnd, .inl (cI, 16, .inl u.2.2.2.2.2))] t.heap ∧ va_D (va_A [(hm, .inr (3, [.int sc, .ref hw, .int (nI cn), .int (nI fu), .int lf, .int (bI dd), .int dn, .int rn, .int (bI tr), .int (nI lg), .ref he, .int me, .ref hd, .ref hen, .ref hnd])), (hw, .inl (cI, 160, .inl M)), (he, .inl (cI, 3, .inl en)), (hd, .inl (cI, 6, .inl dg)), (hen, .inl (cI, 6, .inl ed)), (hnd, .inl (cI, 16, .inl nd))] sz) [(hm, .inr (3, [.int sc, .ref hw, .int (nI cn), .int (nI fu), .int lf, .int (bI dd), .int dn, .int rn, .int (bI tr), .int (nI u.1), .ref he, .int u.2.1, .ref hd, .ref hen, .ref hnd])), (hw, .inl (cI, 160, .inl M)), (he, .inl (cI, 3, .inl u.2.2.1)), (hd, .inl (cI, 6, .inl u.2.2.2.1)), (hen, .inl (cI, 6, .inl u.2.2.2.2.1)), (hnd, .inl (cI, 16, .inl u.2.2.2.2.2))]) (va_A [(hm, .inr (3, [.int sc, .ref hw, .int (nI cn), .int (nI fu), .int lf, .int (bI dd), .int dn, .int rn, .int (bI tr), .int (nI lg), .ref he, .int me, .ref hd, .ref hen, .ref hnd])), (hw, .inl (cI, 160, .inl M)), (he, .inl (cI, 3, .inl en)), (hd, .inl (cI, 6, .inl dg)), (hen, .inl (cI, 6, .inl ed)), (hnd, .inl (cI, 16, .inl nd))] sz)) 0 0 (va_A [(hm, .inr (3, [.int sc, .ref hw, .int (nI cn), .int (nI fu), .int lf, .int (bI dd), .int dn, .int rn, .int (bI tr), .int (nI lg), .ref he, .int me, .ref hd, .ref hen, .ref hnd])), (hw, .inl (cI, 160, .inl M)), (he, .inl (cI, 3, .inl en)), (hd, .inl (cI, 6, .inl dg)), (hen, .inl (cI, 6, .inl ed)), (hnd, .inl (cI, 16, .inl nd))] sz) := by
  refine Met.ofW (cc := b_Mo_attempt) (maxL := 6) (ret := (some .boolean)) (by decide) rfl ?_
  intro p e s m args below meth c s₁ B hml hv
  obtain ⟨rfl, hsz, hP, hKN, hD0⟩ := hv
  have hK := hKN.1
  have hx := B.exec
  have hb := B.bytes
  have hr := B.returns
  have hts := fun (w : Cond) (h : w ∈ gt) => atoms_spec (ws := w_Mo_attempt) B.pre w (List.mem_cons_of_mem _ h)
  have hown : s.vm.findClass R_Mo = some m.cls := findClass_of_methodNamed B.named
  have hlocks := B.notSynchronized
  subst hsz
  have hD := hD0.self (sz := s.heap.size)
  generalize hAe : va_A [(hm, .inr (3, [.int sc, .ref hw, .int (nI cn), .int (nI fu), .int lf, .int (bI dd), .int dn, .int rn, .int (bI tr), .int (nI lg), .ref he, .int me, .ref hd, .ref hen, .ref hnd])), (hw, .inl (cI, 160, .inl M)), (he, .inl (cI, 3, .inl en)), (hd, .inl (cI, 6, .inl dg)), (hen, .inl (cI, 6, .inl ed)), (hnd, .inl (cI, 16, .inl nd))] s.heap.size = A at hD ⊢
  have hA : ∀ q : Nat, s.heap.size ≤ q → A q := fun q h => by rw [← hAe]; exact Or.inr h
  have hS : va_S A s.heap s.heap [] := va_S.rf
  have hP : va_P (dC, dI) classes [(hm, .inr (3, [.int sc, .ref hw, .int (nI cn), .int (nI fu), .int lf, .int (bI dd), .int dn, .int rn, .int (bI tr), .int (nI lg), .ref he, .int me, .ref hd, .ref hen, .ref hnd])), (hw, .inl (cI, 160, .inl M)), (he, .inl (cI, 3, .inl en)), (hd, .inl (cI, 6, .inl dg)), (hen, .inl (cI, 6, .inl ed)), (hnd, .inl (cI, 16, .inl nd))] s.heap := hP
  clear hAe hD0
  have hl := lv_entry ([.ref hm, .int (nI k)]) (n := 6) (Nat.le_of_ble_eq_true rfl)
  rw [lg_entry_eq]
  generalize (lg_sl ([.ref hm, .int (nI k)]) ++ List.replicate (6 - (lg_sl ([.ref hm, .int (nI k)])).length) Slot.unset).toArray = ls at hl ⊢
  have hl : lv_has ls 6 [(0, .ref hm), (1, .int (nI k))] := hl
  refine lv_aload_n hx hb d_Mo_attempt_0 rfl (lv_at hl 0 rfl) ?_
  refine lv_iconst (v := (nI 0)) hx hb d_Mo_attempt_1 (by decide) ?_
  refine va_put (D := (dC, dI)) (ci := 3) (v := .int (nI 0)) (ty := .int) (C := R_Mo) (T := F_Mo) (N := 15) hx hb hts in_Mo t_Mo t_Mo_ok n_Mo hown hK hP hD hS 0 rfl rfl 9 (by decide) (hts _ kw_448) (fun _ h9 => h9) rfl (by decide +kernel) rfl rfl (Nat.le_of_ble_eq_true rfl) d_Mo_attempt_2 (fun H locs hP hD hS => ?_)
  have hP : va_P (dC, dI) classes [(hm, .inr (3, [.int sc, .ref hw, .int (nI cn), .int (nI fu), .int lf, .int (bI dd), .int dn, .int rn, .int (bI tr), .int (nI 0), .ref he, .int me, .ref hd, .ref hen, .ref hnd])), (hw, .inl (cI, 160, .inl M)), (he, .inl (cI, 3, .inl en)), (hd, .inl (cI, 6, .inl dg)), (hen, .inl (cI, 6, .inl ed)), (hnd, .inl (cI, 16, .inl nd))] H := hP
  have hD : va_D A [(hm, .inr (3, [.int sc, .ref hw, .int (nI cn), .int (nI fu), .int lf, .int (bI dd), .int dn, .int rn, .int (bI tr), .int (nI 0), .ref he, .int me, .ref hd, .ref hen, .ref hnd])), (hw, .inl (cI, 160, .inl M)), (he, .inl (cI, 3, .inl en)), (hd, .inl (cI, 6, .inl dg)), (hen, .inl (cI, 6, .inl ed)), (hnd, .inl (cI, 16, .inl nd))] := hD
  refine lv_aload_n hx hb d_Mo_attempt_5 rfl (lv_at hl 0 rfl) ?_
  refine lv_iconst (v := (nI 0)) hx hb d_Mo_attempt_6 (by decide) ?_
  refine va_put (D := (dC, dI)) (ci := 3) (v := .int (nI 0)) (ty := .int) (C := R_Mo) (T := F_Mo) (N := 15) hx hb hts in_Mo t_Mo t_Mo_ok n_Mo hown hK hP hD hS 0 rfl rfl 11 (by decide) (hts _ kw_450) (fun _ h9 => h9) rfl (by decide +kernel) rfl rfl (Nat.le_of_ble_eq_true rfl) d_Mo_attempt_7 (fun H locs hP hD hS => ?_)
  have hP : va_P (dC, dI) classes [(hm, .inr (3, [.int sc, .ref hw, .int (nI cn), .int (nI fu), .int lf, .int (bI dd), .int dn, .int rn, .int (bI tr), .int (nI 0), .ref he, .int (nI 0), .ref hd, .ref hen, .ref hnd])), (hw, .inl (cI, 160, .inl M)), (he, .inl (cI, 3, .inl en)), (hd, .inl (cI, 6, .inl dg)), (hen, .inl (cI, 6, .inl ed)), (hnd, .inl (cI, 16, .inl nd))] H := hP
  have hD : va_D A [(hm, .inr (3, [.int sc, .ref hw, .int (nI cn), .int (nI fu), .int lf, .int (bI dd), .int dn, .int rn, .int (bI tr), .int (nI 0), .ref he, .int (nI 0), .ref hd, .ref hen, .ref hnd])), (hw, .inl (cI, 160, .inl M)), (he, .inl (cI, 3, .inl en)), (hd, .inl (cI, 6, .inl dg)), (hen, .inl (cI, 6, .inl ed)), (hnd, .inl (cI, 16, .inl nd))] := hD
  refine lv_bipush (v := (nI 17)) hx hb d_Mo_attempt_10 (by decide) ?_
  refine lv_iload_n hx hb d_Mo_attempt_12 rfl (lv_at hl 1 rfl) ?_
  refine lv_imul hx hb d_Mo_attempt_13 ?_
  refine tp (pk_mul _ _) ?_
  refine lv_istore_n (lv' := [(2, .int (nI (17 * k))), (0, .ref hm), (1, .int (nI k))]) hx hb d_Mo_attempt_14 rfl hl (by decide) rfl (fun ls hl => ?_)
  refine lv_aload_n hx hb d_Mo_attempt_15 rfl (lv_at hl 1 rfl) ?_
  refine va_get (D := (dC, dI)) (ci := 3) (v := .ref hw) (C := R_Mo) (T := F_Mo) (N := 15) hx hb hts in_Mo hown hK hP 0 rfl rfl 1 (by decide) (hts _ kw_440) (fun _ h9 => h9) rfl d_Mo_attempt_16 ?_
  refine lv_iload_n hx hb d_Mo_attempt_19 rfl (lv_at hl 0 rfl) ?_
  refine ar_ld (k := 17 * k) hx hb hK hP 1 0 rfl rfl (by omega) (by first | decide | omega) d_Mo_attempt_20 ?_
  refine lv_istore_n (lv' := [(3, .int (M (17 * k))), (2, .int (nI (17 * k))), (0, .ref hm), (1, .int (nI k))]) hx hb d_Mo_attempt_21 rfl hl (by decide) rfl (fun ls hl => ?_)
  refine lv_iload_n hx hb d_Mo_attempt_22 rfl (lv_at hl 0 rfl) ?_
  refine lv_iconst (v := (nI 1)) hx hb d_Mo_attempt_23 (by decide) ?_
  refine lv_icmp_lt (tgt := 49) hx hb d_Mo_attempt_24 (by decide) (fun h_1 => ?_) (fun h_1 => ?_)
  · refine lv_iconst (v := (nI 0)) hx hb d_Mo_attempt_49 (by decide) ?_
    exact W.zret (v := (bI false)) hx hb hr (bI_narrow _) (fun t ht hW => ⟨⟨_, (0, (nI 0), en, dg, ed, nd), rfl, ⟨false, rfl, (by exact att_lo h_1)⟩, by rw [ht]; exact hP, hD⟩, hS.F ht⟩) hS.2.2 d_Mo_attempt_50
  · refine lv_iload_n hx hb d_Mo_attempt_27 rfl (lv_at hl 0 rfl) ?_
    refine lv_bipush (v := (nI 32)) hx hb d_Mo_attempt_28 (by decide) ?_
    refine lv_icmp_gt (tgt := 49) hx hb d_Mo_attempt_30 (by decide) (fun h_2 => ?_) (fun h_2 => ?_)
    · refine lv_iconst (v := (nI 0)) hx hb d_Mo_attempt_49 (by decide) ?_
      exact W.zret (v := (bI false)) hx hb hr (bI_narrow _) (fun t ht hW => ⟨⟨_, (0, (nI 0), en, dg, ed, nd), rfl, ⟨false, rfl, (by exact att_hi h_1 h_2)⟩, by rw [ht]; exact hP, hD⟩, hS.F ht⟩) hS.2.2 d_Mo_attempt_50
    · refine lv_iload_n hx hb d_Mo_attempt_33 rfl (lv_at hl 0 rfl) ?_
      refine lv_aload_n hx hb d_Mo_attempt_34 rfl (lv_at hl 2 rfl) ?_
      refine va_get (D := (dC, dI)) (ci := 3) (v := .int (nI fu)) (C := R_Mo) (T := F_Mo) (N := 15) hx hb hts in_Mo hown hK hP 0 rfl rfl 3 (by decide) (hts _ kw_442) (fun _ h9 => h9) rfl d_Mo_attempt_35 ?_
      refine lv_icmp_lt (tgt := 49) hx hb d_Mo_attempt_38 (by decide) (fun h_3 => ?_) (fun h_3 => ?_)
      · refine lv_iconst (v := (nI 0)) hx hb d_Mo_attempt_49 (by decide) ?_
        exact W.zret (v := (bI false)) hx hb hr (bI_narrow _) (fun t ht hW => ⟨⟨_, (0, (nI 0), en, dg, ed, nd), rfl, ⟨false, rfl, (by exact att_bl h_1 h_2 h_3)⟩, by rw [ht]; exact hP, hD⟩, hS.F ht⟩) hS.2.2 d_Mo_attempt_50
      · refine lv_aload_n hx hb d_Mo_attempt_41 rfl (lv_at hl 2 rfl) ?_
        refine lv_iload_n hx hb d_Mo_attempt_42 rfl (lv_at hl 1 rfl) ?_
        have hPc := hP.sub (ws' := [(hm, .inr (3, [.int sc, .ref hw, .int (nI cn), .int (nI fu), .int lf, .int (bI dd), .int dn, .int rn, .int (bI tr), .int (nI 0), .ref he, .int (nI 0), .ref hd, .ref hen, .ref hnd])), (hw, .inl (cI, 160, .inl M)), (hd, .inl (cI, 6, .inl dg)), (hen, .inl (cI, 6, .inl ed)), (hnd, .inl (cI, 16, .inl nd))]) [0, 1, 3, 4, 5] rfl
        have hDc := hD.sub (ws' := [(hm, .inr (3, [.int sc, .ref hw, .int (nI cn), .int (nI fu), .int lf, .int (bI dd), .int dn, .int rn, .int (bI tr), .int (nI 0), .ref he, .int (nI 0), .ref hd, .ref hen, .ref hnd])), (hw, .inl (cI, 160, .inl M)), (hd, .inl (cI, 6, .inl dg)), (hen, .inl (cI, 6, .inl ed)), (hnd, .inl (cI, 16, .inl nd))]) [0, 1, 3, 4, 5] (by decide) rfl
        have hFc := va_free (wc := [(hm, .inr (3, [.int sc, .ref hw, .int (nI cn), .int (nI fu), .int lf, .int (bI dd), .int dn, .int rn, .int (bI tr), .int (nI 0), .ref he, .int (nI 0), .ref hd, .ref hen, .ref hnd])), (hw, .inl (cI, 160, .inl M)), (hd, .inl (cI, 6, .inl dg)), (hen, .inl (cI, 6, .inl ed)), (hnd, .inl (cI, 16, .inl nd))]) hD hS hA [0, 1, 3, 4, 5] rfl
        refine va_calli (va_runV (As := [.int (nI (17 * k))]) (rest := []) ⟨hx, hb, hml, hown, hts⟩ (c_Mo_signed l dC dI cI (hm := hm) (b := 17 * k) (sc := sc) (hw := hw) (cn := cn) (fu := fu) (lf := lf) (dd := dd) (dn := dn) (rn := rn) (tr := tr) (lg := 0) (he := he) (me := (nI 0)) (hd := hd) (hen := hen) (hnd := hnd) (M := M) (dg := dg) (ed := ed) (nd := nd) (hb160 := (by omega)) (sz := H.size)) ⟨callB_of 1 hts (gd kw_516) rfl rfl rfl (hts _ kw_41) (hts _ kw_513) (by decide +kernel) ⟨Nat.le_of_ble_eq_true rfl, Nat.le_of_ble_eq_true rfl⟩, (hts _ kw_515), (hts _ kw_24)⟩ ⟨fun a U g mk q => by obtain ⟨q0, q1, qP, qK, qD⟩ := q; exact ⟨q0, q1, qP, qK.call, qD⟩, va_recv hK hP (ci := 3) rfl (q0 := 0) rfl, fun U hU hW => ⟨rfl, by rw [hU], by rw [hU]; exact hPc, hKN.warm hW, hDc.weaken (fun _ _ _ _ => trivial)⟩⟩ rfl rfl hl.1 rfl (lv_room (Nat.le_of_ble_eq_true rfl)) d_Mo_attempt_43 ⟨Nat.zero_le _, Nat.zero_le _⟩) hS (fun q _ h => hFc q h) hFc (fun r u t H1 locs zt zvm zw zB zz zk hS => ?_)
        obtain ⟨dg_4, ed_4, nd_4⟩ := u
        obtain ⟨b_4, rfl, hu_4⟩ := zw
        obtain ⟨hP1, hD1⟩ := zB
        rw [zt] at hP1
        have hP1 : va_P (dC, dI) classes [(hm, .inr (3, [.int sc, .ref hw, .int (nI cn), .int (nI fu), .int lf, .int (bI dd), .int dn, .int rn, .int (bI tr), .int (nI 0), .ref he, .int (nI 0), .ref hd, .ref hen, .ref hnd])), (hw, .inl (cI, 160, .inl M)), (hd, .inl (cI, 6, .inl dg_4)), (hen, .inl (cI, 6, .inl ed_4)), (hnd, .inl (cI, 16, .inl nd_4))] H1 := hP1
        obtain ⟨hP, hD⟩ := va_join (wc := [(hm, .inr (3, [.int sc, .ref hw, .int (nI cn), .int (nI fu), .int lf, .int (bI dd), .int dn, .int rn, .int (bI tr), .int (nI 0), .ref he, .int (nI 0), .ref hd, .ref hen, .ref hnd])), (hw, .inl (cI, 160, .inl M)), (hd, .inl (cI, 6, .inl dg)), (hen, .inl (cI, 6, .inl ed)), (hnd, .inl (cI, 16, .inl nd))]) (wr := [(he, .inl (cI, 3, .inl en))]) (w1 := [(hm, .inr (3, [.int sc, .ref hw, .int (nI cn), .int (nI fu), .int lf, .int (bI dd), .int dn, .int rn, .int (bI tr), .int (nI 0), .ref he, .int (nI 0), .ref hd, .ref hen, .ref hnd])), (hw, .inl (cI, 160, .inl M)), (hd, .inl (cI, 6, .inl dg_4)), (hen, .inl (cI, 6, .inl ed_4)), (hnd, .inl (cI, 16, .inl nd_4))]) hP hD [0, 1, 3, 4, 5] [2] rfl rfl (by decide) (by decide) zk hFc hP1 hD1
        generalize H1 = H at hP hS ⊢
        have hP : va_P (dC, dI) classes [(hm, .inr (3, [.int sc, .ref hw, .int (nI cn), .int (nI fu), .int lf, .int (bI dd), .int dn, .int rn, .int (bI tr), .int (nI 0), .ref he, .int (nI 0), .ref hd, .ref hen, .ref hnd])), (hw, .inl (cI, 160, .inl M)), (he, .inl (cI, 3, .inl en)), (hd, .inl (cI, 6, .inl dg_4)), (hen, .inl (cI, 6, .inl ed_4)), (hnd, .inl (cI, 16, .inl nd_4))] H := hP.sub [1, 2, 0, 3, 4, 5] rfl
        have hD : va_D A [(hm, .inr (3, [.int sc, .ref hw, .int (nI cn), .int (nI fu), .int lf, .int (bI dd), .int dn, .int rn, .int (bI tr), .int (nI 0), .ref he, .int (nI 0), .ref hd, .ref hen, .ref hnd])), (hw, .inl (cI, 160, .inl M)), (he, .inl (cI, 3, .inl en)), (hd, .inl (cI, 6, .inl dg_4)), (hen, .inl (cI, 6, .inl ed_4)), (hnd, .inl (cI, 16, .inl nd_4))] := hD.sub [1, 2, 0, 3, 4, 5] (by decide) rfl
        clear hPc hDc hFc hP1 hD1 zk zz zvm zt
        refine bz_ne (tgt := 51) hx hb d_Mo_attempt_46 (by decide) (fun h_5 => ?_) (fun h_5 => ?_)
        · subst h_5
          refine lv_aload_n hx hb d_Mo_attempt_51 rfl (lv_at hl 2 rfl) ?_
          refine lv_iload_n hx hb d_Mo_attempt_52 rfl (lv_at hl 1 rfl) ?_
          refine pr_call (va_runV (As := [.int (nI (17 * k))]) (rest := []) ⟨hx, hb, hml, hown, hts⟩ (c_Mo_stranger l dC dI cI (hm := hm) (b := 17 * k) (sc := sc) (hw := hw) (cn := cn) (fu := fu) (lf := lf) (dd := dd) (dn := dn) (rn := rn) (tr := tr) (lg := 0) (he := he) (me := (nI 0)) (hd := hd) (hen := hen) (hnd := hnd) (M := M) (hb160 := (by omega))) ⟨callB_of 1 hts (gd kw_512) rfl rfl rfl (hts _ kw_41) (hts _ kw_509) (by decide +kernel) ⟨Nat.le_of_ble_eq_true rfl, Nat.le_of_ble_eq_true rfl⟩, (hts _ kw_511), (hts _ kw_23)⟩ ⟨fun a U g mk q => by obtain ⟨q0, qP, qK⟩ := q; exact ⟨q0, qP, qK.call⟩, va_recv hK hP (ci := 3) rfl (q0 := 0) rfl, fun U hU hW => ⟨rfl, by rw [hU]; exact hP.sub [0, 1] rfl, hKN.warm hW⟩⟩ rfl rfl hl.1 rfl (lv_room (Nat.le_of_ble_eq_true rfl)) d_Mo_attempt_53 ⟨Nat.zero_le _, Nat.zero_le _⟩) ?_
          rcases strg_cases (fun i => M ((17 * k) + i)) with hg | hg | hg | hg
          · refine tp (congrArg nI hg) ?_
            refine lv_istore (lv' := [(4, .int (nI 0)), (3, .int (M (17 * k))), (2, .int (nI (17 * k))), (0, .ref hm), (1, .int (nI k))]) hx hb d_Mo_attempt_56 hl (by decide) rfl (fun ls hl => ?_)
            refine lv_iconst (v := (nI 0)) hx hb d_Mo_attempt_58 (by decide) ?_
            refine lv_istore (lv' := [(5, .int (nI 0)), (4, .int (nI 0)), (3, .int (M (17 * k))), (2, .int (nI (17 * k))), (0, .ref hm), (1, .int (nI k))]) hx hb d_Mo_attempt_59 hl (by decide) rfl (fun ls hl => ?_)
            refine lv_iload hx hb d_Mo_attempt_61 (lv_at hl 0 rfl) ?_
            refine lv_iload hx hb d_Mo_attempt_63 (lv_at hl 1 rfl) ?_
            refine nb_ge (tgt := 110) hx hb d_Mo_attempt_65 (by decide) (by decide) (by decide) (fun h_6 => ?_) (fun h_6 => ?_)
            · refine lv_aload_n hx hb d_Mo_attempt_110 rfl (lv_at hl 4 rfl) ?_
              refine lv_iload hx hb d_Mo_attempt_111 (lv_at hl 1 rfl) ?_
              refine va_put (D := (dC, dI)) (ci := 3) (v := .int (nI 0)) (ty := .int) (C := R_Mo) (T := F_Mo) (N := 15) hx hb hts in_Mo t_Mo t_Mo_ok n_Mo hown hK hP hD hS 0 rfl rfl 9 (by decide) (hts _ kw_448) (fun _ h9 => h9) rfl (by decide +kernel) rfl rfl (Nat.le_of_ble_eq_true rfl) d_Mo_attempt_113 (fun H locs hP hD hS => ?_)
              have hP : va_P (dC, dI) classes [(hm, .inr (3, [.int sc, .ref hw, .int (nI cn), .int (nI fu), .int lf, .int (bI dd), .int dn, .int rn, .int (bI tr), .int (nI 0), .ref he, .int (nI 0), .ref hd, .ref hen, .ref hnd])), (hw, .inl (cI, 160, .inl M)), (he, .inl (cI, 3, .inl en)), (hd, .inl (cI, 6, .inl dg_4)), (hen, .inl (cI, 6, .inl ed_4)), (hnd, .inl (cI, 16, .inl nd_4))] H := hP
              have hD : va_D A [(hm, .inr (3, [.int sc, .ref hw, .int (nI cn), .int (nI fu), .int lf, .int (bI dd), .int dn, .int rn, .int (bI tr), .int (nI 0), .ref he, .int (nI 0), .ref hd, .ref hen, .ref hnd])), (hw, .inl (cI, 160, .inl M)), (he, .inl (cI, 3, .inl en)), (hd, .inl (cI, 6, .inl dg_4)), (hen, .inl (cI, 6, .inl ed_4)), (hnd, .inl (cI, 16, .inl nd_4))] := hD
              refine lv_iload hx hb d_Mo_attempt_116 (lv_at hl 1 rfl) ?_
              refine lv_iconst (v := (nI 3)) hx hb d_Mo_attempt_118 (by decide) ?_
              refine nb_ne (tgt := 126) hx hb d_Mo_attempt_119 (by decide) (by decide) (by decide) (fun h_7 => ?_) (fun h_7 => ?_)
              · refine lv_iconst (v := (nI 0)) hx hb d_Mo_attempt_126 (by decide) ?_
                exact W.zret (v := (bI false)) hx hb hr (bI_narrow _) (fun t ht hW => ⟨⟨_, (0, (nI 0), en, dg_4, ed_4, nd_4), rfl, ⟨false, rfl, (by exact att_0 h_1 h_2 h_3 hu_4.symm hg)⟩, by rw [ht]; exact hP, hD⟩, hS.F ht⟩) hS.2.2 d_Mo_attempt_127
              · exact absurd h_7 (by decide)
            · exact absurd h_6 (by decide)
          · refine tp (congrArg nI hg) ?_
            refine lv_istore (lv' := [(4, .int (nI 1)), (3, .int (M (17 * k))), (2, .int (nI (17 * k))), (0, .ref hm), (1, .int (nI k))]) hx hb d_Mo_attempt_56 hl (by decide) rfl (fun ls hl => ?_)
            refine lv_iconst (v := (nI 0)) hx hb d_Mo_attempt_58 (by decide) ?_
            refine lv_istore (lv' := [(5, .int (nI 0)), (4, .int (nI 1)), (3, .int (M (17 * k))), (2, .int (nI (17 * k))), (0, .ref hm), (1, .int (nI k))]) hx hb d_Mo_attempt_59 hl (by decide) rfl (fun ls hl => ?_)
            refine lv_iload hx hb d_Mo_attempt_61 (lv_at hl 0 rfl) ?_
            refine lv_iload hx hb d_Mo_attempt_63 (lv_at hl 1 rfl) ?_
            refine nb_ge (tgt := 110) hx hb d_Mo_attempt_65 (by decide) (by decide) (by decide) (fun h_8 => ?_) (fun h_8 => ?_)
            · exact absurd h_8 (by decide)
            · refine lv_aload_n hx hb d_Mo_attempt_68 rfl (lv_at hl 4 rfl) ?_
              refine va_get (D := (dC, dI)) (ci := 3) (v := .ref he) (C := R_Mo) (T := F_Mo) (N := 15) hx hb hts in_Mo hown hK hP 0 rfl rfl 10 (by decide) (hts _ kw_449) (fun _ h9 => h9) rfl d_Mo_attempt_69 ?_
              refine lv_iload hx hb d_Mo_attempt_72 (lv_at hl 0 rfl) ?_
              refine lv_aload_n hx hb d_Mo_attempt_74 rfl (lv_at hl 4 rfl) ?_
              refine va_get (D := (dC, dI)) (ci := 3) (v := .ref hw) (C := R_Mo) (T := F_Mo) (N := 15) hx hb hts in_Mo hown hK hP 0 rfl rfl 1 (by decide) (hts _ kw_440) (fun _ h9 => h9) rfl d_Mo_attempt_75 ?_
              refine lv_iload_n hx hb d_Mo_attempt_78 rfl (lv_at hl 3 rfl) ?_
              refine lv_iconst (v := (nI 1)) hx hb d_Mo_attempt_79 (by decide) ?_
              refine lv_iadd hx hb d_Mo_attempt_80 ?_
              refine tp (nI_add _ _) ?_
              refine lv_iload hx hb d_Mo_attempt_81 (lv_at hl 0 rfl) ?_
              refine lv_iadd hx hb d_Mo_attempt_83 ?_
              refine tp (y := (nI ((17 * k) + 1))) (nI_add _ _) ?_
              refine ar_ld (k := (17 * k) + 1) hx hb hK hP 1 0 rfl rfl (by omega) (by first | decide | omega) d_Mo_attempt_84 ?_
              refine ar_st (k := 0) hx hb hK hP hD hS 2 0 rfl rfl (by omega) (by first | decide | omega) d_Mo_attempt_85 (fun H locs hP hD hS => ?_)
              have hP : va_P (dC, dI) classes [(hm, .inr (3, [.int sc, .ref hw, .int (nI cn), .int (nI fu), .int lf, .int (bI dd), .int dn, .int rn, .int (bI tr), .int (nI 0), .ref he, .int (nI 0), .ref hd, .ref hen, .ref hnd])), (hw, .inl (cI, 160, .inl M)), (he, .inl (cI, 3, .inl (upd en 0 (M ((17 * k) + 1))))), (hd, .inl (cI, 6, .inl dg_4)), (hen, .inl (cI, 6, .inl ed_4)), (hnd, .inl (cI, 16, .inl nd_4))] H := hP
              have hD : va_D A [(hm, .inr (3, [.int sc, .ref hw, .int (nI cn), .int (nI fu), .int lf, .int (bI dd), .int dn, .int rn, .int (bI tr), .int (nI 0), .ref he, .int (nI 0), .ref hd, .ref hen, .ref hnd])), (hw, .inl (cI, 160, .inl M)), (he, .inl (cI, 3, .inl (upd en 0 (M ((17 * k) + 1))))), (hd, .inl (cI, 6, .inl dg_4)), (hen, .inl (cI, 6, .inl ed_4)), (hnd, .inl (cI, 16, .inl nd_4))] := hD
              refine lv_aload_n hx hb d_Mo_attempt_86 rfl (lv_at hl 4 rfl) ?_
              refine lv_aload_n hx hb d_Mo_attempt_87 rfl (lv_at hl 4 rfl) ?_
              refine va_get (D := (dC, dI)) (ci := 3) (v := .int (nI 0)) (C := R_Mo) (T := F_Mo) (N := 15) hx hb hts in_Mo hown hK hP 0 rfl rfl 11 (by decide) (hts _ kw_450) (fun _ h9 => h9) rfl d_Mo_attempt_88 ?_
              refine lv_aload_n hx hb d_Mo_attempt_91 rfl (lv_at hl 4 rfl) ?_
              refine va_get (D := (dC, dI)) (ci := 3) (v := .ref he) (C := R_Mo) (T := F_Mo) (N := 15) hx hb hts in_Mo hown hK hP 0 rfl rfl 10 (by decide) (hts _ kw_449) (fun _ h9 => h9) rfl d_Mo_attempt_92 ?_
              refine lv_iload hx hb d_Mo_attempt_95 (lv_at hl 0 rfl) ?_
              refine ar_ld (k := 0) hx hb hK hP 2 0 rfl rfl (by omega) (by first | decide | omega) d_Mo_attempt_97 ?_
              refine tp pk_us ?_
              refine pr_call (va_runS (As := [.int (nI 0), .int (M ((17 * k) + 1))]) (rest := [.ref hm]) ⟨hx, hb, hml, hown, hts⟩ (c_Mo_h l dC dI cI (a := (nI 0)) (b := M ((17 * k) + 1)) ) ⟨callB_of 2 hts (gd kw_411) rfl rfl rfl (hts _ kw_41) (hts _ kw_409) (by decide +kernel) ⟨Nat.le_of_ble_eq_true rfl, Nat.le_of_ble_eq_true rfl⟩, (hts _ kw_410)⟩ ⟨fun a U g mk q => by obtain ⟨q0, qP, qK⟩ := q; exact ⟨q0, qP, qK.call⟩, fun U hU hW => ⟨rfl, by rw [hU]; exact hP.sub [] rfl, hKN.warm hW⟩⟩ rfl rfl hl.1 rfl (lv_room (Nat.le_of_ble_eq_true rfl)) d_Mo_attempt_98 ⟨Nat.zero_le _, Nat.zero_le _⟩) ?_
              refine va_put (D := (dC, dI)) (ci := 3) (v := .int (hh (nI 0) (M ((17 * k) + 1)))) (ty := .int) (C := R_Mo) (T := F_Mo) (N := 15) hx hb hts in_Mo t_Mo t_Mo_ok n_Mo hown hK hP hD hS 0 rfl rfl 11 (by decide) (hts _ kw_450) (fun _ h9 => h9) rfl (by decide +kernel) rfl rfl (Nat.le_of_ble_eq_true rfl) d_Mo_attempt_101 (fun H locs hP hD hS => ?_)
              have hP : va_P (dC, dI) classes [(hm, .inr (3, [.int sc, .ref hw, .int (nI cn), .int (nI fu), .int lf, .int (bI dd), .int dn, .int rn, .int (bI tr), .int (nI 0), .ref he, .int (hh (nI 0) (M ((17 * k) + 1))), .ref hd, .ref hen, .ref hnd])), (hw, .inl (cI, 160, .inl M)), (he, .inl (cI, 3, .inl (upd en 0 (M ((17 * k) + 1))))), (hd, .inl (cI, 6, .inl dg_4)), (hen, .inl (cI, 6, .inl ed_4)), (hnd, .inl (cI, 16, .inl nd_4))] H := hP
              have hD : va_D A [(hm, .inr (3, [.int sc, .ref hw, .int (nI cn), .int (nI fu), .int lf, .int (bI dd), .int dn, .int rn, .int (bI tr), .int (nI 0), .ref he, .int (hh (nI 0) (M ((17 * k) + 1))), .ref hd, .ref hen, .ref hnd])), (hw, .inl (cI, 160, .inl M)), (he, .inl (cI, 3, .inl (upd en 0 (M ((17 * k) + 1))))), (hd, .inl (cI, 6, .inl dg_4)), (hen, .inl (cI, 6, .inl ed_4)), (hnd, .inl (cI, 16, .inl nd_4))] := hD
              refine lv_iinc (k := 0) (v := (nI 1)) (lv' := [(5, .int (nI 1)), (4, .int (nI 1)), (3, .int (M (17 * k))), (2, .int (nI (17 * k))), (0, .ref hm), (1, .int (nI k))]) hx hb d_Mo_attempt_104 hl rfl (by decide) (by decide) rfl (fun ls hl => ?_)
              refine lv_goto (tgt := 61) hx hb d_Mo_attempt_107 (by decide) ?_
              refine lv_iload hx hb d_Mo_attempt_61 (lv_at hl 0 rfl) ?_
              refine lv_iload hx hb d_Mo_attempt_63 (lv_at hl 1 rfl) ?_
              refine nb_ge (tgt := 110) hx hb d_Mo_attempt_65 (by decide) (by decide) (by decide) (fun h_9 => ?_) (fun h_9 => ?_)
              · refine lv_aload_n hx hb d_Mo_attempt_110 rfl (lv_at hl 4 rfl) ?_
                refine lv_iload hx hb d_Mo_attempt_111 (lv_at hl 1 rfl) ?_
                refine va_put (D := (dC, dI)) (ci := 3) (v := .int (nI 1)) (ty := .int) (C := R_Mo) (T := F_Mo) (N := 15) hx hb hts in_Mo t_Mo t_Mo_ok n_Mo hown hK hP hD hS 0 rfl rfl 9 (by decide) (hts _ kw_448) (fun _ h9 => h9) rfl (by decide +kernel) rfl rfl (Nat.le_of_ble_eq_true rfl) d_Mo_attempt_113 (fun H locs hP hD hS => ?_)
                have hP : va_P (dC, dI) classes [(hm, .inr (3, [.int sc, .ref hw, .int (nI cn), .int (nI fu), .int lf, .int (bI dd), .int dn, .int rn, .int (bI tr), .int (nI 1), .ref he, .int (hh (nI 0) (M ((17 * k) + 1))), .ref hd, .ref hen, .ref hnd])), (hw, .inl (cI, 160, .inl M)), (he, .inl (cI, 3, .inl (upd en 0 (M ((17 * k) + 1))))), (hd, .inl (cI, 6, .inl dg_4)), (hen, .inl (cI, 6, .inl ed_4)), (hnd, .inl (cI, 16, .inl nd_4))] H := hP
                have hD : va_D A [(hm, .inr (3, [.int sc, .ref hw, .int (nI cn), .int (nI fu), .int lf, .int (bI dd), .int dn, .int rn, .int (bI tr), .int (nI 1), .ref he, .int (hh (nI 0) (M ((17 * k) + 1))), .ref hd, .ref hen, .ref hnd])), (hw, .inl (cI, 160, .inl M)), (he, .inl (cI, 3, .inl (upd en 0 (M ((17 * k) + 1))))), (hd, .inl (cI, 6, .inl dg_4)), (hen, .inl (cI, 6, .inl ed_4)), (hnd, .inl (cI, 16, .inl nd_4))] := hD
                refine lv_iload hx hb d_Mo_attempt_116 (lv_at hl 1 rfl) ?_
                refine lv_iconst (v := (nI 3)) hx hb d_Mo_attempt_118 (by decide) ?_
                refine nb_ne (tgt := 126) hx hb d_Mo_attempt_119 (by decide) (by decide) (by decide) (fun h_10 => ?_) (fun h_10 => ?_)
                · refine lv_iconst (v := (nI 0)) hx hb d_Mo_attempt_126 (by decide) ?_
                  exact W.zret (v := (bI false)) hx hb hr (bI_narrow _) (fun t ht hW => ⟨⟨_, (1, hh (nI 0) (M ((17 * k) + 1)), upd en 0 (M ((17 * k) + 1)), dg_4, ed_4, nd_4), rfl, ⟨false, rfl, (by exact att_1 h_1 h_2 h_3 hu_4.symm hg)⟩, by rw [ht]; exact hP, hD⟩, hS.F ht⟩) hS.2.2 d_Mo_attempt_127
                · exact absurd h_10 (by decide)
              · exact absurd h_9 (by decide)
          · refine tp (congrArg nI hg) ?_
            refine lv_istore (lv' := [(4, .int (nI 2)), (3, .int (M (17 * k))), (2, .int (nI (17 * k))), (0, .ref hm), (1, .int (nI k))]) hx hb d_Mo_attempt_56 hl (by decide) rfl (fun ls hl => ?_)
            refine lv_iconst (v := (nI 0)) hx hb d_Mo_attempt_58 (by decide) ?_
            refine lv_istore (lv' := [(5, .int (nI 0)), (4, .int (nI 2)), (3, .int (M (17 * k))), (2, .int (nI (17 * k))), (0, .ref hm), (1, .int (nI k))]) hx hb d_Mo_attempt_59 hl (by decide) rfl (fun ls hl => ?_)
            refine lv_iload hx hb d_Mo_attempt_61 (lv_at hl 0 rfl) ?_
            refine lv_iload hx hb d_Mo_attempt_63 (lv_at hl 1 rfl) ?_
            refine nb_ge (tgt := 110) hx hb d_Mo_attempt_65 (by decide) (by decide) (by decide) (fun h_11 => ?_) (fun h_11 => ?_)
            · exact absurd h_11 (by decide)
            · refine lv_aload_n hx hb d_Mo_attempt_68 rfl (lv_at hl 4 rfl) ?_
              refine va_get (D := (dC, dI)) (ci := 3) (v := .ref he) (C := R_Mo) (T := F_Mo) (N := 15) hx hb hts in_Mo hown hK hP 0 rfl rfl 10 (by decide) (hts _ kw_449) (fun _ h9 => h9) rfl d_Mo_attempt_69 ?_
              refine lv_iload hx hb d_Mo_attempt_72 (lv_at hl 0 rfl) ?_
              refine lv_aload_n hx hb d_Mo_attempt_74 rfl (lv_at hl 4 rfl) ?_
              refine va_get (D := (dC, dI)) (ci := 3) (v := .ref hw) (C := R_Mo) (T := F_Mo) (N := 15) hx hb hts in_Mo hown hK hP 0 rfl rfl 1 (by decide) (hts _ kw_440) (fun _ h9 => h9) rfl d_Mo_attempt_75 ?_
              refine lv_iload_n hx hb d_Mo_attempt_78 rfl (lv_at hl 3 rfl) ?_
              refine lv_iconst (v := (nI 1)) hx hb d_Mo_attempt_79 (by decide) ?_
              refine lv_iadd hx hb d_Mo_attempt_80 ?_
              refine tp (nI_add _ _) ?_
              refine lv_iload hx hb d_Mo_attempt_81 (lv_at hl 0 rfl) ?_
              refine lv_iadd hx hb d_Mo_attempt_83 ?_
              refine tp (y := (nI ((17 * k) + 1))) (nI_add _ _) ?_
              refine ar_ld (k := (17 * k) + 1) hx hb hK hP 1 0 rfl rfl (by omega) (by first | decide | omega) d_Mo_attempt_84 ?_
              refine ar_st (k := 0) hx hb hK hP hD hS 2 0 rfl rfl (by omega) (by first | decide | omega) d_Mo_attempt_85 (fun H locs hP hD hS => ?_)
              have hP : va_P (dC, dI) classes [(hm, .inr (3, [.int sc, .ref hw, .int (nI cn), .int (nI fu), .int lf, .int (bI dd), .int dn, .int rn, .int (bI tr), .int (nI 0), .ref he, .int (nI 0), .ref hd, .ref hen, .ref hnd])), (hw, .inl (cI, 160, .inl M)), (he, .inl (cI, 3, .inl (upd en 0 (M ((17 * k) + 1))))), (hd, .inl (cI, 6, .inl dg_4)), (hen, .inl (cI, 6, .inl ed_4)), (hnd, .inl (cI, 16, .inl nd_4))] H := hP
              have hD : va_D A [(hm, .inr (3, [.int sc, .ref hw, .int (nI cn), .int (nI fu), .int lf, .int (bI dd), .int dn, .int rn, .int (bI tr), .int (nI 0), .ref he, .int (nI 0), .ref hd, .ref hen, .ref hnd])), (hw, .inl (cI, 160, .inl M)), (he, .inl (cI, 3, .inl (upd en 0 (M ((17 * k) + 1))))), (hd, .inl (cI, 6, .inl dg_4)), (hen, .inl (cI, 6, .inl ed_4)), (hnd, .inl (cI, 16, .inl nd_4))] := hD
              refine lv_aload_n hx hb d_Mo_attempt_86 rfl (lv_at hl 4 rfl) ?_
              refine lv_aload_n hx hb d_Mo_attempt_87 rfl (lv_at hl 4 rfl) ?_
              refine va_get (D := (dC, dI)) (ci := 3) (v := .int (nI 0)) (C := R_Mo) (T := F_Mo) (N := 15) hx hb hts in_Mo hown hK hP 0 rfl rfl 11 (by decide) (hts _ kw_450) (fun _ h9 => h9) rfl d_Mo_attempt_88 ?_
              refine lv_aload_n hx hb d_Mo_attempt_91 rfl (lv_at hl 4 rfl) ?_
              refine va_get (D := (dC, dI)) (ci := 3) (v := .ref he) (C := R_Mo) (T := F_Mo) (N := 15) hx hb hts in_Mo hown hK hP 0 rfl rfl 10 (by decide) (hts _ kw_449) (fun _ h9 => h9) rfl d_Mo_attempt_92 ?_
              refine lv_iload hx hb d_Mo_attempt_95 (lv_at hl 0 rfl) ?_
              refine ar_ld (k := 0) hx hb hK hP 2 0 rfl rfl (by omega) (by first | decide | omega) d_Mo_attempt_97 ?_
              refine tp pk_us ?_
              refine pr_call (va_runS (As := [.int (nI 0), .int (M ((17 * k) + 1))]) (rest := [.ref hm]) ⟨hx, hb, hml, hown, hts⟩ (c_Mo_h l dC dI cI (a := (nI 0)) (b := M ((17 * k) + 1)) ) ⟨callB_of 2 hts (gd kw_411) rfl rfl rfl (hts _ kw_41) (hts _ kw_409) (by decide +kernel) ⟨Nat.le_of_ble_eq_true rfl, Nat.le_of_ble_eq_true rfl⟩, (hts _ kw_410)⟩ ⟨fun a U g mk q => by obtain ⟨q0, qP, qK⟩ := q; exact ⟨q0, qP, qK.call⟩, fun U hU hW => ⟨rfl, by rw [hU]; exact hP.sub [] rfl, hKN.warm hW⟩⟩ rfl rfl hl.1 rfl (lv_room (Nat.le_of_ble_eq_true rfl)) d_Mo_attempt_98 ⟨Nat.zero_le _, Nat.zero_le _⟩) ?_
              refine va_put (D := (dC, dI)) (ci := 3) (v := .int (hh (nI 0) (M ((17 * k) + 1)))) (ty := .int) (C := R_Mo) (T := F_Mo) (N := 15) hx hb hts in_Mo t_Mo t_Mo_ok n_Mo hown hK hP hD hS 0 rfl rfl 11 (by decide) (hts _ kw_450) (fun _ h9 => h9) rfl (by decide +kernel) rfl rfl (Nat.le_of_ble_eq_true rfl) d_Mo_attempt_101 (fun H locs hP hD hS => ?_)
              have hP : va_P (dC, dI) classes [(hm, .inr (3, [.int sc, .ref hw, .int (nI cn), .int (nI fu), .int lf, .int (bI dd), .int dn, .int rn, .int (bI tr), .int (nI 0), .ref he, .int (hh (nI 0) (M ((17 * k) + 1))), .ref hd, .ref hen, .ref hnd])), (hw, .inl (cI, 160, .inl M)), (he, .inl (cI, 3, .inl (upd en 0 (M ((17 * k) + 1))))), (hd, .inl (cI, 6, .inl dg_4)), (hen, .inl (cI, 6, .inl ed_4)), (hnd, .inl (cI, 16, .inl nd_4))] H := hP
              have hD : va_D A [(hm, .inr (3, [.int sc, .ref hw, .int (nI cn), .int (nI fu), .int lf, .int (bI dd), .int dn, .int rn, .int (bI tr), .int (nI 0), .ref he, .int (hh (nI 0) (M ((17 * k) + 1))), .ref hd, .ref hen, .ref hnd])), (hw, .inl (cI, 160, .inl M)), (he, .inl (cI, 3, .inl (upd en 0 (M ((17 * k) + 1))))), (hd, .inl (cI, 6, .inl dg_4)), (hen, .inl (cI, 6, .inl ed_4)), (hnd, .inl (cI, 16, .inl nd_4))] := hD
              refine lv_iinc (k := 0) (v := (nI 1)) (lv' := [(5, .int (nI 1)), (4, .int (nI 2)), (3, .int (M (17 * k))), (2, .int (nI (17 * k))), (0, .ref hm), (1, .int (nI k))]) hx hb d_Mo_attempt_104 hl rfl (by decide) (by decide) rfl (fun ls hl => ?_)
              refine lv_goto (tgt := 61) hx hb d_Mo_attempt_107 (by decide) ?_
              refine lv_iload hx hb d_Mo_attempt_61 (lv_at hl 0 rfl) ?_
              refine lv_iload hx hb d_Mo_attempt_63 (lv_at hl 1 rfl) ?_
              refine nb_ge (tgt := 110) hx hb d_Mo_attempt_65 (by decide) (by decide) (by decide) (fun h_12 => ?_) (fun h_12 => ?_)
              · exact absurd h_12 (by decide)
              · refine lv_aload_n hx hb d_Mo_attempt_68 rfl (lv_at hl 4 rfl) ?_
                refine va_get (D := (dC, dI)) (ci := 3) (v := .ref he) (C := R_Mo) (T := F_Mo) (N := 15) hx hb hts in_Mo hown hK hP 0 rfl rfl 10 (by decide) (hts _ kw_449) (fun _ h9 => h9) rfl d_Mo_attempt_69 ?_
                refine lv_iload hx hb d_Mo_attempt_72 (lv_at hl 0 rfl) ?_
                refine lv_aload_n hx hb d_Mo_attempt_74 rfl (lv_at hl 4 rfl) ?_
                refine va_get (D := (dC, dI)) (ci := 3) (v := .ref hw) (C := R_Mo) (T := F_Mo) (N := 15) hx hb hts in_Mo hown hK hP 0 rfl rfl 1 (by decide) (hts _ kw_440) (fun _ h9 => h9) rfl d_Mo_attempt_75 ?_
                refine lv_iload_n hx hb d_Mo_attempt_78 rfl (lv_at hl 3 rfl) ?_
                refine lv_iconst (v := (nI 1)) hx hb d_Mo_attempt_79 (by decide) ?_
                refine lv_iadd hx hb d_Mo_attempt_80 ?_
                refine tp (nI_add _ _) ?_
                refine lv_iload hx hb d_Mo_attempt_81 (lv_at hl 0 rfl) ?_
                refine lv_iadd hx hb d_Mo_attempt_83 ?_
                refine tp (y := (nI ((17 * k) + 2))) (nI_add _ _) ?_
                refine ar_ld (k := (17 * k) + 2) hx hb hK hP 1 0 rfl rfl (by omega) (by first | decide | omega) d_Mo_attempt_84 ?_
                refine ar_st (k := 1) hx hb hK hP hD hS 2 0 rfl rfl (by omega) (by first | decide | omega) d_Mo_attempt_85 (fun H locs hP hD hS => ?_)
                have hP : va_P (dC, dI) classes [(hm, .inr (3, [.int sc, .ref hw, .int (nI cn), .int (nI fu), .int lf, .int (bI dd), .int dn, .int rn, .int (bI tr), .int (nI 0), .ref he, .int (hh (nI 0) (M ((17 * k) + 1))), .ref hd, .ref hen, .ref hnd])), (hw, .inl (cI, 160, .inl M)), (he, .inl (cI, 3, .inl (upd (upd en 0 (M ((17 * k) + 1))) 1 (M ((17 * k) + 2))))), (hd, .inl (cI, 6, .inl dg_4)), (hen, .inl (cI, 6, .inl ed_4)), (hnd, .inl (cI, 16, .inl nd_4))] H := hP
                have hD : va_D A [(hm, .inr (3, [.int sc, .ref hw, .int (nI cn), .int (nI fu), .int lf, .int (bI dd), .int dn, .int rn, .int (bI tr), .int (nI 0), .ref he, .int (hh (nI 0) (M ((17 * k) + 1))), .ref hd, .ref hen, .ref hnd])), (hw, .inl (cI, 160, .inl M)), (he, .inl (cI, 3, .inl (upd (upd en 0 (M ((17 * k) + 1))) 1 (M ((17 * k) + 2))))), (hd, .inl (cI, 6, .inl dg_4)), (hen, .inl (cI, 6, .inl ed_4)), (hnd, .inl (cI, 16, .inl nd_4))] := hD
                refine lv_aload_n hx hb d_Mo_attempt_86 rfl (lv_at hl 4 rfl) ?_
                refine lv_aload_n hx hb d_Mo_attempt_87 rfl (lv_at hl 4 rfl) ?_
                refine va_get (D := (dC, dI)) (ci := 3) (v := .int (hh (nI 0) (M ((17 * k) + 1)))) (C := R_Mo) (T := F_Mo) (N := 15) hx hb hts in_Mo hown hK hP 0 rfl rfl 11 (by decide) (hts _ kw_450) (fun _ h9 => h9) rfl d_Mo_attempt_88 ?_
                refine lv_aload_n hx hb d_Mo_attempt_91 rfl (lv_at hl 4 rfl) ?_
                refine va_get (D := (dC, dI)) (ci := 3) (v := .ref he) (C := R_Mo) (T := F_Mo) (N := 15) hx hb hts in_Mo hown hK hP 0 rfl rfl 10 (by decide) (hts _ kw_449) (fun _ h9 => h9) rfl d_Mo_attempt_92 ?_
                refine lv_iload hx hb d_Mo_attempt_95 (lv_at hl 0 rfl) ?_
                refine ar_ld (k := 1) hx hb hK hP 2 0 rfl rfl (by omega) (by first | decide | omega) d_Mo_attempt_97 ?_
                refine tp pk_us ?_
                refine pr_call (va_runS (As := [.int (hh (nI 0) (M ((17 * k) + 1))), .int (M ((17 * k) + 2))]) (rest := [.ref hm]) ⟨hx, hb, hml, hown, hts⟩ (c_Mo_h l dC dI cI (a := hh (nI 0) (M ((17 * k) + 1))) (b := M ((17 * k) + 2)) ) ⟨callB_of 2 hts (gd kw_411) rfl rfl rfl (hts _ kw_41) (hts _ kw_409) (by decide +kernel) ⟨Nat.le_of_ble_eq_true rfl, Nat.le_of_ble_eq_true rfl⟩, (hts _ kw_410)⟩ ⟨fun a U g mk q => by obtain ⟨q0, qP, qK⟩ := q; exact ⟨q0, qP, qK.call⟩, fun U hU hW => ⟨rfl, by rw [hU]; exact hP.sub [] rfl, hKN.warm hW⟩⟩ rfl rfl hl.1 rfl (lv_room (Nat.le_of_ble_eq_true rfl)) d_Mo_attempt_98 ⟨Nat.zero_le _, Nat.zero_le _⟩) ?_
                refine va_put (D := (dC, dI)) (ci := 3) (v := .int (hh (hh (nI 0) (M ((17 * k) + 1))) (M ((17 * k) + 2)))) (ty := .int) (C := R_Mo) (T := F_Mo) (N := 15) hx hb hts in_Mo t_Mo t_Mo_ok n_Mo hown hK hP hD hS 0 rfl rfl 11 (by decide) (hts _ kw_450) (fun _ h9 => h9) rfl (by decide +kernel) rfl rfl (Nat.le_of_ble_eq_true rfl) d_Mo_attempt_101 (fun H locs hP hD hS => ?_)
                have hP : va_P (dC, dI) classes [(hm, .inr (3, [.int sc, .ref hw, .int (nI cn), .int (nI fu), .int lf, .int (bI dd), .int dn, .int rn, .int (bI tr), .int (nI 0), .ref he, .int (hh (hh (nI 0) (M ((17 * k) + 1))) (M ((17 * k) + 2))), .ref hd, .ref hen, .ref hnd])), (hw, .inl (cI, 160, .inl M)), (he, .inl (cI, 3, .inl (upd (upd en 0 (M ((17 * k) + 1))) 1 (M ((17 * k) + 2))))), (hd, .inl (cI, 6, .inl dg_4)), (hen, .inl (cI, 6, .inl ed_4)), (hnd, .inl (cI, 16, .inl nd_4))] H := hP
                have hD : va_D A [(hm, .inr (3, [.int sc, .ref hw, .int (nI cn), .int (nI fu), .int lf, .int (bI dd), .int dn, .int rn, .int (bI tr), .int (nI 0), .ref he, .int (hh (hh (nI 0) (M ((17 * k) + 1))) (M ((17 * k) + 2))), .ref hd, .ref hen, .ref hnd])), (hw, .inl (cI, 160, .inl M)), (he, .inl (cI, 3, .inl (upd (upd en 0 (M ((17 * k) + 1))) 1 (M ((17 * k) + 2))))), (hd, .inl (cI, 6, .inl dg_4)), (hen, .inl (cI, 6, .inl ed_4)), (hnd, .inl (cI, 16, .inl nd_4))] := hD
                refine lv_iinc (k := 0) (v := (nI 2)) (lv' := [(5, .int (nI 2)), (4, .int (nI 2)), (3, .int (M (17 * k))), (2, .int (nI (17 * k))), (0, .ref hm), (1, .int (nI k))]) hx hb d_Mo_attempt_104 hl rfl (by decide) (by decide) rfl (fun ls hl => ?_)
                refine lv_goto (tgt := 61) hx hb d_Mo_attempt_107 (by decide) ?_
                refine lv_iload hx hb d_Mo_attempt_61 (lv_at hl 0 rfl) ?_
                refine lv_iload hx hb d_Mo_attempt_63 (lv_at hl 1 rfl) ?_
                refine nb_ge (tgt := 110) hx hb d_Mo_attempt_65 (by decide) (by decide) (by decide) (fun h_13 => ?_) (fun h_13 => ?_)
                · refine lv_aload_n hx hb d_Mo_attempt_110 rfl (lv_at hl 4 rfl) ?_
                  refine lv_iload hx hb d_Mo_attempt_111 (lv_at hl 1 rfl) ?_
                  refine va_put (D := (dC, dI)) (ci := 3) (v := .int (nI 2)) (ty := .int) (C := R_Mo) (T := F_Mo) (N := 15) hx hb hts in_Mo t_Mo t_Mo_ok n_Mo hown hK hP hD hS 0 rfl rfl 9 (by decide) (hts _ kw_448) (fun _ h9 => h9) rfl (by decide +kernel) rfl rfl (Nat.le_of_ble_eq_true rfl) d_Mo_attempt_113 (fun H locs hP hD hS => ?_)
                  have hP : va_P (dC, dI) classes [(hm, .inr (3, [.int sc, .ref hw, .int (nI cn), .int (nI fu), .int lf, .int (bI dd), .int dn, .int rn, .int (bI tr), .int (nI 2), .ref he, .int (hh (hh (nI 0) (M ((17 * k) + 1))) (M ((17 * k) + 2))), .ref hd, .ref hen, .ref hnd])), (hw, .inl (cI, 160, .inl M)), (he, .inl (cI, 3, .inl (upd (upd en 0 (M ((17 * k) + 1))) 1 (M ((17 * k) + 2))))), (hd, .inl (cI, 6, .inl dg_4)), (hen, .inl (cI, 6, .inl ed_4)), (hnd, .inl (cI, 16, .inl nd_4))] H := hP
                  have hD : va_D A [(hm, .inr (3, [.int sc, .ref hw, .int (nI cn), .int (nI fu), .int lf, .int (bI dd), .int dn, .int rn, .int (bI tr), .int (nI 2), .ref he, .int (hh (hh (nI 0) (M ((17 * k) + 1))) (M ((17 * k) + 2))), .ref hd, .ref hen, .ref hnd])), (hw, .inl (cI, 160, .inl M)), (he, .inl (cI, 3, .inl (upd (upd en 0 (M ((17 * k) + 1))) 1 (M ((17 * k) + 2))))), (hd, .inl (cI, 6, .inl dg_4)), (hen, .inl (cI, 6, .inl ed_4)), (hnd, .inl (cI, 16, .inl nd_4))] := hD
                  refine lv_iload hx hb d_Mo_attempt_116 (lv_at hl 1 rfl) ?_
                  refine lv_iconst (v := (nI 3)) hx hb d_Mo_attempt_118 (by decide) ?_
                  refine nb_ne (tgt := 126) hx hb d_Mo_attempt_119 (by decide) (by decide) (by decide) (fun h_14 => ?_) (fun h_14 => ?_)
                  · refine lv_iconst (v := (nI 0)) hx hb d_Mo_attempt_126 (by decide) ?_
                    exact W.zret (v := (bI false)) hx hb hr (bI_narrow _) (fun t ht hW => ⟨⟨_, (2, hh (hh (nI 0) (M ((17 * k) + 1))) (M ((17 * k) + 2)), upd (upd en 0 (M ((17 * k) + 1))) 1 (M ((17 * k) + 2)), dg_4, ed_4, nd_4), rfl, ⟨false, rfl, (by exact att_2 h_1 h_2 h_3 hu_4.symm hg)⟩, by rw [ht]; exact hP, hD⟩, hS.F ht⟩) hS.2.2 d_Mo_attempt_127
                  · exact absurd h_14 (by decide)
                · exact absurd h_13 (by decide)
          · refine tp (congrArg nI hg) ?_
            refine lv_istore (lv' := [(4, .int (nI 3)), (3, .int (M (17 * k))), (2, .int (nI (17 * k))), (0, .ref hm), (1, .int (nI k))]) hx hb d_Mo_attempt_56 hl (by decide) rfl (fun ls hl => ?_)
            refine lv_iconst (v := (nI 0)) hx hb d_Mo_attempt_58 (by decide) ?_
            refine lv_istore (lv' := [(5, .int (nI 0)), (4, .int (nI 3)), (3, .int (M (17 * k))), (2, .int (nI (17 * k))), (0, .ref hm), (1, .int (nI k))]) hx hb d_Mo_attempt_59 hl (by decide) rfl (fun ls hl => ?_)
            refine lv_iload hx hb d_Mo_attempt_61 (lv_at hl 0 rfl) ?_
            refine lv_iload hx hb d_Mo_attempt_63 (lv_at hl 1 rfl) ?_
            refine nb_ge (tgt := 110) hx hb d_Mo_attempt_65 (by decide) (by decide) (by decide) (fun h_15 => ?_) (fun h_15 => ?_)
            · exact absurd h_15 (by decide)
            · refine lv_aload_n hx hb d_Mo_attempt_68 rfl (lv_at hl 4 rfl) ?_
              refine va_get (D := (dC, dI)) (ci := 3) (v := .ref he) (C := R_Mo) (T := F_Mo) (N := 15) hx hb hts in_Mo hown hK hP 0 rfl rfl 10 (by decide) (hts _ kw_449) (fun _ h9 => h9) rfl d_Mo_attempt_69 ?_
              refine lv_iload hx hb d_Mo_attempt_72 (lv_at hl 0 rfl) ?_
              refine lv_aload_n hx hb d_Mo_attempt_74 rfl (lv_at hl 4 rfl) ?_
              refine va_get (D := (dC, dI)) (ci := 3) (v := .ref hw) (C := R_Mo) (T := F_Mo) (N := 15) hx hb hts in_Mo hown hK hP 0 rfl rfl 1 (by decide) (hts _ kw_440) (fun _ h9 => h9) rfl d_Mo_attempt_75 ?_
              refine lv_iload_n hx hb d_Mo_attempt_78 rfl (lv_at hl 3 rfl) ?_
              refine lv_iconst (v := (nI 1)) hx hb d_Mo_attempt_79 (by decide) ?_
              refine lv_iadd hx hb d_Mo_attempt_80 ?_
              refine tp (nI_add _ _) ?_
              refine lv_iload hx hb d_Mo_attempt_81 (lv_at hl 0 rfl) ?_
              refine lv_iadd hx hb d_Mo_attempt_83 ?_
              refine tp (y := (nI ((17 * k) + 1))) (nI_add _ _) ?_
              refine ar_ld (k := (17 * k) + 1) hx hb hK hP 1 0 rfl rfl (by omega) (by first | decide | omega) d_Mo_attempt_84 ?_
              refine ar_st (k := 0) hx hb hK hP hD hS 2 0 rfl rfl (by omega) (by first | decide | omega) d_Mo_attempt_85 (fun H locs hP hD hS => ?_)
              have hP : va_P (dC, dI) classes [(hm, .inr (3, [.int sc, .ref hw, .int (nI cn), .int (nI fu), .int lf, .int (bI dd), .int dn, .int rn, .int (bI tr), .int (nI 0), .ref he, .int (nI 0), .ref hd, .ref hen, .ref hnd])), (hw, .inl (cI, 160, .inl M)), (he, .inl (cI, 3, .inl (upd en 0 (M ((17 * k) + 1))))), (hd, .inl (cI, 6, .inl dg_4)), (hen, .inl (cI, 6, .inl ed_4)), (hnd, .inl (cI, 16, .inl nd_4))] H := hP
              have hD : va_D A [(hm, .inr (3, [.int sc, .ref hw, .int (nI cn), .int (nI fu), .int lf, .int (bI dd), .int dn, .int rn, .int (bI tr), .int (nI 0), .ref he, .int (nI 0), .ref hd, .ref hen, .ref hnd])), (hw, .inl (cI, 160, .inl M)), (he, .inl (cI, 3, .inl (upd en 0 (M ((17 * k) + 1))))), (hd, .inl (cI, 6, .inl dg_4)), (hen, .inl (cI, 6, .inl ed_4)), (hnd, .inl (cI, 16, .inl nd_4))] := hD
              refine lv_aload_n hx hb d_Mo_attempt_86 rfl (lv_at hl 4 rfl) ?_
              refine lv_aload_n hx hb d_Mo_attempt_87 rfl (lv_at hl 4 rfl) ?_
              refine va_get (D := (dC, dI)) (ci := 3) (v := .int (nI 0)) (C := R_Mo) (T := F_Mo) (N := 15) hx hb hts in_Mo hown hK hP 0 rfl rfl 11 (by decide) (hts _ kw_450) (fun _ h9 => h9) rfl d_Mo_attempt_88 ?_
              refine lv_aload_n hx hb d_Mo_attempt_91 rfl (lv_at hl 4 rfl) ?_
              refine va_get (D := (dC, dI)) (ci := 3) (v := .ref he) (C := R_Mo) (T := F_Mo) (N := 15) hx hb hts in_Mo hown hK hP 0 rfl rfl 10 (by decide) (hts _ kw_449) (fun _ h9 => h9) rfl d_Mo_attempt_92 ?_
              refine lv_iload hx hb d_Mo_attempt_95 (lv_at hl 0 rfl) ?_
              refine ar_ld (k := 0) hx hb hK hP 2 0 rfl rfl (by omega) (by first | decide | omega) d_Mo_attempt_97 ?_
              refine tp pk_us ?_
              refine pr_call (va_runS (As := [.int (nI 0), .int (M ((17 * k) + 1))]) (rest := [.ref hm]) ⟨hx, hb, hml, hown, hts⟩ (c_Mo_h l dC dI cI (a := (nI 0)) (b := M ((17 * k) + 1)) ) ⟨callB_of 2 hts (gd kw_411) rfl rfl rfl (hts _ kw_41) (hts _ kw_409) (by decide +kernel) ⟨Nat.le_of_ble_eq_true rfl, Nat.le_of_ble_eq_true rfl⟩, (hts _ kw_410)⟩ ⟨fun a U g mk q => by obtain ⟨q0, qP, qK⟩ := q; exact ⟨q0, qP, qK.call⟩, fun U hU hW => ⟨rfl, by rw [hU]; exact hP.sub [] rfl, hKN.warm hW⟩⟩ rfl rfl hl.1 rfl (lv_room (Nat.le_of_ble_eq_true rfl)) d_Mo_attempt_98 ⟨Nat.zero_le _, Nat.zero_le _⟩) ?_
              refine va_put (D := (dC, dI)) (ci := 3) (v := .int (hh (nI 0) (M ((17 * k) + 1)))) (ty := .int) (C := R_Mo) (T := F_Mo) (N := 15) hx hb hts in_Mo t_Mo t_Mo_ok n_Mo hown hK hP hD hS 0 rfl rfl 11 (by decide) (hts _ kw_450) (fun _ h9 => h9) rfl (by decide +kernel) rfl rfl (Nat.le_of_ble_eq_true rfl) d_Mo_attempt_101 (fun H locs hP hD hS => ?_)
              have hP : va_P (dC, dI) classes [(hm, .inr (3, [.int sc, .ref hw, .int (nI cn), .int (nI fu), .int lf, .int (bI dd), .int dn, .int rn, .int (bI tr), .int (nI 0), .ref he, .int (hh (nI 0) (M ((17 * k) + 1))), .ref hd, .ref hen, .ref hnd])), (hw, .inl (cI, 160, .inl M)), (he, .inl (cI, 3, .inl (upd en 0 (M ((17 * k) + 1))))), (hd, .inl (cI, 6, .inl dg_4)), (hen, .inl (cI, 6, .inl ed_4)), (hnd, .inl (cI, 16, .inl nd_4))] H := hP
              have hD : va_D A [(hm, .inr (3, [.int sc, .ref hw, .int (nI cn), .int (nI fu), .int lf, .int (bI dd), .int dn, .int rn, .int (bI tr), .int (nI 0), .ref he, .int (hh (nI 0) (M ((17 * k) + 1))), .ref hd, .ref hen, .ref hnd])), (hw, .inl (cI, 160, .inl M)), (he, .inl (cI, 3, .inl (upd en 0 (M ((17 * k) + 1))))), (hd, .inl (cI, 6, .inl dg_4)), (hen, .inl (cI, 6, .inl ed_4)), (hnd, .inl (cI, 16, .inl nd_4))] := hD
              refine lv_iinc (k := 0) (v := (nI 1)) (lv' := [(5, .int (nI 1)), (4, .int (nI 3)), (3, .int (M (17 * k))), (2, .int (nI (17 * k))), (0, .ref hm), (1, .int (nI k))]) hx hb d_Mo_attempt_104 hl rfl (by decide) (by decide) rfl (fun ls hl => ?_)
              refine lv_goto (tgt := 61) hx hb d_Mo_attempt_107 (by decide) ?_
              refine lv_iload hx hb d_Mo_attempt_61 (lv_at hl 0 rfl) ?_
              refine lv_iload hx hb d_Mo_attempt_63 (lv_at hl 1 rfl) ?_
              refine nb_ge (tgt := 110) hx hb d_Mo_attempt_65 (by decide) (by decide) (by decide) (fun h_16 => ?_) (fun h_16 => ?_)
              · exact absurd h_16 (by decide)
              · refine lv_aload_n hx hb d_Mo_attempt_68 rfl (lv_at hl 4 rfl) ?_
                refine va_get (D := (dC, dI)) (ci := 3) (v := .ref he) (C := R_Mo) (T := F_Mo) (N := 15) hx hb hts in_Mo hown hK hP 0 rfl rfl 10 (by decide) (hts _ kw_449) (fun _ h9 => h9) rfl d_Mo_attempt_69 ?_
                refine lv_iload hx hb d_Mo_attempt_72 (lv_at hl 0 rfl) ?_
                refine lv_aload_n hx hb d_Mo_attempt_74 rfl (lv_at hl 4 rfl) ?_
                refine va_get (D := (dC, dI)) (ci := 3) (v := .ref hw) (C := R_Mo) (T := F_Mo) (N := 15) hx hb hts in_Mo hown hK hP 0 rfl rfl 1 (by decide) (hts _ kw_440) (fun _ h9 => h9) rfl d_Mo_attempt_75 ?_
                refine lv_iload_n hx hb d_Mo_attempt_78 rfl (lv_at hl 3 rfl) ?_
                refine lv_iconst (v := (nI 1)) hx hb d_Mo_attempt_79 (by decide) ?_
                refine lv_iadd hx hb d_Mo_attempt_80 ?_
                refine tp (nI_add _ _) ?_
                refine lv_iload hx hb d_Mo_attempt_81 (lv_at hl 0 rfl) ?_
                refine lv_iadd hx hb d_Mo_attempt_83 ?_
                refine tp (y := (nI ((17 * k) + 2))) (nI_add _ _) ?_
                refine ar_ld (k := (17 * k) + 2) hx hb hK hP 1 0 rfl rfl (by omega) (by first | decide | omega) d_Mo_attempt_84 ?_
                refine ar_st (k := 1) hx hb hK hP hD hS 2 0 rfl rfl (by omega) (by first | decide | omega) d_Mo_attempt_85 (fun H locs hP hD hS => ?_)
                have hP : va_P (dC, dI) classes [(hm, .inr (3, [.int sc, .ref hw, .int (nI cn), .int (nI fu), .int lf, .int (bI dd), .int dn, .int rn, .int (bI tr), .int (nI 0), .ref he, .int (hh (nI 0) (M ((17 * k) + 1))), .ref hd, .ref hen, .ref hnd])), (hw, .inl (cI, 160, .inl M)), (he, .inl (cI, 3, .inl (upd (upd en 0 (M ((17 * k) + 1))) 1 (M ((17 * k) + 2))))), (hd, .inl (cI, 6, .inl dg_4)), (hen, .inl (cI, 6, .inl ed_4)), (hnd, .inl (cI, 16, .inl nd_4))] H := hP
                have hD : va_D A [(hm, .inr (3, [.int sc, .ref hw, .int (nI cn), .int (nI fu), .int lf, .int (bI dd), .int dn, .int rn, .int (bI tr), .int (nI 0), .ref he, .int (hh (nI 0) (M ((17 * k) + 1))), .ref hd, .ref hen, .ref hnd])), (hw, .inl (cI, 160, .inl M)), (he, .inl (cI, 3, .inl (upd (upd en 0 (M ((17 * k) + 1))) 1 (M ((17 * k) + 2))))), (hd, .inl (cI, 6, .inl dg_4)), (hen, .inl (cI, 6, .inl ed_4)), (hnd, .inl (cI, 16, .inl nd_4))] := hD
                refine lv_aload_n hx hb d_Mo_attempt_86 rfl (lv_at hl 4 rfl) ?_
                refine lv_aload_n hx hb d_Mo_attempt_87 rfl (lv_at hl 4 rfl) ?_
                refine va_get (D := (dC, dI)) (ci := 3) (v := .int (hh (nI 0) (M ((17 * k) + 1)))) (C := R_Mo) (T := F_Mo) (N := 15) hx hb hts in_Mo hown hK hP 0 rfl rfl 11 (by decide) (hts _ kw_450) (fun _ h9 => h9) rfl d_Mo_attempt_88 ?_
                refine lv_aload_n hx hb d_Mo_attempt_91 rfl (lv_at hl 4 rfl) ?_
                refine va_get (D := (dC, dI)) (ci := 3) (v := .ref he) (C := R_Mo) (T := F_Mo) (N := 15) hx hb hts in_Mo hown hK hP 0 rfl rfl 10 (by decide) (hts _ kw_449) (fun _ h9 => h9) rfl d_Mo_attempt_92 ?_
                refine lv_iload hx hb d_Mo_attempt_95 (lv_at hl 0 rfl) ?_
                refine ar_ld (k := 1) hx hb hK hP 2 0 rfl rfl (by omega) (by first | decide | omega) d_Mo_attempt_97 ?_
                refine tp pk_us ?_
                refine pr_call (va_runS (As := [.int (hh (nI 0) (M ((17 * k) + 1))), .int (M ((17 * k) + 2))]) (rest := [.ref hm]) ⟨hx, hb, hml, hown, hts⟩ (c_Mo_h l dC dI cI (a := hh (nI 0) (M ((17 * k) + 1))) (b := M ((17 * k) + 2)) ) ⟨callB_of 2 hts (gd kw_411) rfl rfl rfl (hts _ kw_41) (hts _ kw_409) (by decide +kernel) ⟨Nat.le_of_ble_eq_true rfl, Nat.le_of_ble_eq_true rfl⟩, (hts _ kw_410)⟩ ⟨fun a U g mk q => by obtain ⟨q0, qP, qK⟩ := q; exact ⟨q0, qP, qK.call⟩, fun U hU hW => ⟨rfl, by rw [hU]; exact hP.sub [] rfl, hKN.warm hW⟩⟩ rfl rfl hl.1 rfl (lv_room (Nat.le_of_ble_eq_true rfl)) d_Mo_attempt_98 ⟨Nat.zero_le _, Nat.zero_le _⟩) ?_
                refine va_put (D := (dC, dI)) (ci := 3) (v := .int (hh (hh (nI 0) (M ((17 * k) + 1))) (M ((17 * k) + 2)))) (ty := .int) (C := R_Mo) (T := F_Mo) (N := 15) hx hb hts in_Mo t_Mo t_Mo_ok n_Mo hown hK hP hD hS 0 rfl rfl 11 (by decide) (hts _ kw_450) (fun _ h9 => h9) rfl (by decide +kernel) rfl rfl (Nat.le_of_ble_eq_true rfl) d_Mo_attempt_101 (fun H locs hP hD hS => ?_)
                have hP : va_P (dC, dI) classes [(hm, .inr (3, [.int sc, .ref hw, .int (nI cn), .int (nI fu), .int lf, .int (bI dd), .int dn, .int rn, .int (bI tr), .int (nI 0), .ref he, .int (hh (hh (nI 0) (M ((17 * k) + 1))) (M ((17 * k) + 2))), .ref hd, .ref hen, .ref hnd])), (hw, .inl (cI, 160, .inl M)), (he, .inl (cI, 3, .inl (upd (upd en 0 (M ((17 * k) + 1))) 1 (M ((17 * k) + 2))))), (hd, .inl (cI, 6, .inl dg_4)), (hen, .inl (cI, 6, .inl ed_4)), (hnd, .inl (cI, 16, .inl nd_4))] H := hP
                have hD : va_D A [(hm, .inr (3, [.int sc, .ref hw, .int (nI cn), .int (nI fu), .int lf, .int (bI dd), .int dn, .int rn, .int (bI tr), .int (nI 0), .ref he, .int (hh (hh (nI 0) (M ((17 * k) + 1))) (M ((17 * k) + 2))), .ref hd, .ref hen, .ref hnd])), (hw, .inl (cI, 160, .inl M)), (he, .inl (cI, 3, .inl (upd (upd en 0 (M ((17 * k) + 1))) 1 (M ((17 * k) + 2))))), (hd, .inl (cI, 6, .inl dg_4)), (hen, .inl (cI, 6, .inl ed_4)), (hnd, .inl (cI, 16, .inl nd_4))] := hD
                refine lv_iinc (k := 0) (v := (nI 2)) (lv' := [(5, .int (nI 2)), (4, .int (nI 3)), (3, .int (M (17 * k))), (2, .int (nI (17 * k))), (0, .ref hm), (1, .int (nI k))]) hx hb d_Mo_attempt_104 hl rfl (by decide) (by decide) rfl (fun ls hl => ?_)
                refine lv_goto (tgt := 61) hx hb d_Mo_attempt_107 (by decide) ?_
                refine lv_iload hx hb d_Mo_attempt_61 (lv_at hl 0 rfl) ?_
                refine lv_iload hx hb d_Mo_attempt_63 (lv_at hl 1 rfl) ?_
                refine nb_ge (tgt := 110) hx hb d_Mo_attempt_65 (by decide) (by decide) (by decide) (fun h_17 => ?_) (fun h_17 => ?_)
                · exact absurd h_17 (by decide)
                · refine lv_aload_n hx hb d_Mo_attempt_68 rfl (lv_at hl 4 rfl) ?_
                  refine va_get (D := (dC, dI)) (ci := 3) (v := .ref he) (C := R_Mo) (T := F_Mo) (N := 15) hx hb hts in_Mo hown hK hP 0 rfl rfl 10 (by decide) (hts _ kw_449) (fun _ h9 => h9) rfl d_Mo_attempt_69 ?_
                  refine lv_iload hx hb d_Mo_attempt_72 (lv_at hl 0 rfl) ?_
                  refine lv_aload_n hx hb d_Mo_attempt_74 rfl (lv_at hl 4 rfl) ?_
                  refine va_get (D := (dC, dI)) (ci := 3) (v := .ref hw) (C := R_Mo) (T := F_Mo) (N := 15) hx hb hts in_Mo hown hK hP 0 rfl rfl 1 (by decide) (hts _ kw_440) (fun _ h9 => h9) rfl d_Mo_attempt_75 ?_
                  refine lv_iload_n hx hb d_Mo_attempt_78 rfl (lv_at hl 3 rfl) ?_
                  refine lv_iconst (v := (nI 1)) hx hb d_Mo_attempt_79 (by decide) ?_
                  refine lv_iadd hx hb d_Mo_attempt_80 ?_
                  refine tp (nI_add _ _) ?_
                  refine lv_iload hx hb d_Mo_attempt_81 (lv_at hl 0 rfl) ?_
                  refine lv_iadd hx hb d_Mo_attempt_83 ?_
                  refine tp (y := (nI ((17 * k) + 3))) (nI_add _ _) ?_
                  refine ar_ld (k := (17 * k) + 3) hx hb hK hP 1 0 rfl rfl (by omega) (by first | decide | omega) d_Mo_attempt_84 ?_
                  refine ar_st (k := 2) hx hb hK hP hD hS 2 0 rfl rfl (by omega) (by first | decide | omega) d_Mo_attempt_85 (fun H locs hP hD hS => ?_)
                  have hP : va_P (dC, dI) classes [(hm, .inr (3, [.int sc, .ref hw, .int (nI cn), .int (nI fu), .int lf, .int (bI dd), .int dn, .int rn, .int (bI tr), .int (nI 0), .ref he, .int (hh (hh (nI 0) (M ((17 * k) + 1))) (M ((17 * k) + 2))), .ref hd, .ref hen, .ref hnd])), (hw, .inl (cI, 160, .inl M)), (he, .inl (cI, 3, .inl (upd (upd (upd en 0 (M ((17 * k) + 1))) 1 (M ((17 * k) + 2))) 2 (M ((17 * k) + 3))))), (hd, .inl (cI, 6, .inl dg_4)), (hen, .inl (cI, 6, .inl ed_4)), (hnd, .inl (cI, 16, .inl nd_4))] H := hP
                  have hD : va_D A [(hm, .inr (3, [.int sc, .ref hw, .int (nI cn), .int (nI fu), .int lf, .int (bI dd), .int dn, .int rn, .int (bI tr), .int (nI 0), .ref he, .int (hh (hh (nI 0) (M ((17 * k) + 1))) (M ((17 * k) + 2))), .ref hd, .ref hen, .ref hnd])), (hw, .inl (cI, 160, .inl M)), (he, .inl (cI, 3, .inl (upd (upd (upd en 0 (M ((17 * k) + 1))) 1 (M ((17 * k) + 2))) 2 (M ((17 * k) + 3))))), (hd, .inl (cI, 6, .inl dg_4)), (hen, .inl (cI, 6, .inl ed_4)), (hnd, .inl (cI, 16, .inl nd_4))] := hD
                  refine lv_aload_n hx hb d_Mo_attempt_86 rfl (lv_at hl 4 rfl) ?_
                  refine lv_aload_n hx hb d_Mo_attempt_87 rfl (lv_at hl 4 rfl) ?_
                  refine va_get (D := (dC, dI)) (ci := 3) (v := .int (hh (hh (nI 0) (M ((17 * k) + 1))) (M ((17 * k) + 2)))) (C := R_Mo) (T := F_Mo) (N := 15) hx hb hts in_Mo hown hK hP 0 rfl rfl 11 (by decide) (hts _ kw_450) (fun _ h9 => h9) rfl d_Mo_attempt_88 ?_
                  refine lv_aload_n hx hb d_Mo_attempt_91 rfl (lv_at hl 4 rfl) ?_
                  refine va_get (D := (dC, dI)) (ci := 3) (v := .ref he) (C := R_Mo) (T := F_Mo) (N := 15) hx hb hts in_Mo hown hK hP 0 rfl rfl 10 (by decide) (hts _ kw_449) (fun _ h9 => h9) rfl d_Mo_attempt_92 ?_
                  refine lv_iload hx hb d_Mo_attempt_95 (lv_at hl 0 rfl) ?_
                  refine ar_ld (k := 2) hx hb hK hP 2 0 rfl rfl (by omega) (by first | decide | omega) d_Mo_attempt_97 ?_
                  refine tp pk_us ?_
                  refine pr_call (va_runS (As := [.int (hh (hh (nI 0) (M ((17 * k) + 1))) (M ((17 * k) + 2))), .int (M ((17 * k) + 3))]) (rest := [.ref hm]) ⟨hx, hb, hml, hown, hts⟩ (c_Mo_h l dC dI cI (a := hh (hh (nI 0) (M ((17 * k) + 1))) (M ((17 * k) + 2))) (b := M ((17 * k) + 3)) ) ⟨callB_of 2 hts (gd kw_411) rfl rfl rfl (hts _ kw_41) (hts _ kw_409) (by decide +kernel) ⟨Nat.le_of_ble_eq_true rfl, Nat.le_of_ble_eq_true rfl⟩, (hts _ kw_410)⟩ ⟨fun a U g mk q => by obtain ⟨q0, qP, qK⟩ := q; exact ⟨q0, qP, qK.call⟩, fun U hU hW => ⟨rfl, by rw [hU]; exact hP.sub [] rfl, hKN.warm hW⟩⟩ rfl rfl hl.1 rfl (lv_room (Nat.le_of_ble_eq_true rfl)) d_Mo_attempt_98 ⟨Nat.zero_le _, Nat.zero_le _⟩) ?_
                  refine va_put (D := (dC, dI)) (ci := 3) (v := .int (hh (hh (hh (nI 0) (M ((17 * k) + 1))) (M ((17 * k) + 2))) (M ((17 * k) + 3)))) (ty := .int) (C := R_Mo) (T := F_Mo) (N := 15) hx hb hts in_Mo t_Mo t_Mo_ok n_Mo hown hK hP hD hS 0 rfl rfl 11 (by decide) (hts _ kw_450) (fun _ h9 => h9) rfl (by decide +kernel) rfl rfl (Nat.le_of_ble_eq_true rfl) d_Mo_attempt_101 (fun H locs hP hD hS => ?_)
                  have hP : va_P (dC, dI) classes [(hm, .inr (3, [.int sc, .ref hw, .int (nI cn), .int (nI fu), .int lf, .int (bI dd), .int dn, .int rn, .int (bI tr), .int (nI 0), .ref he, .int (hh (hh (hh (nI 0) (M ((17 * k) + 1))) (M ((17 * k) + 2))) (M ((17 * k) + 3))), .ref hd, .ref hen, .ref hnd])), (hw, .inl (cI, 160, .inl M)), (he, .inl (cI, 3, .inl (upd (upd (upd en 0 (M ((17 * k) + 1))) 1 (M ((17 * k) + 2))) 2 (M ((17 * k) + 3))))), (hd, .inl (cI, 6, .inl dg_4)), (hen, .inl (cI, 6, .inl ed_4)), (hnd, .inl (cI, 16, .inl nd_4))] H := hP
                  have hD : va_D A [(hm, .inr (3, [.int sc, .ref hw, .int (nI cn), .int (nI fu), .int lf, .int (bI dd), .int dn, .int rn, .int (bI tr), .int (nI 0), .ref he, .int (hh (hh (hh (nI 0) (M ((17 * k) + 1))) (M ((17 * k) + 2))) (M ((17 * k) + 3))), .ref hd, .ref hen, .ref hnd])), (hw, .inl (cI, 160, .inl M)), (he, .inl (cI, 3, .inl (upd (upd (upd en 0 (M ((17 * k) + 1))) 1 (M ((17 * k) + 2))) 2 (M ((17 * k) + 3))))), (hd, .inl (cI, 6, .inl dg_4)), (hen, .inl (cI, 6, .inl ed_4)), (hnd, .inl (cI, 16, .inl nd_4))] := hD
                  refine lv_iinc (k := 0) (v := (nI 3)) (lv' := [(5, .int (nI 3)), (4, .int (nI 3)), (3, .int (M (17 * k))), (2, .int (nI (17 * k))), (0, .ref hm), (1, .int (nI k))]) hx hb d_Mo_attempt_104 hl rfl (by decide) (by decide) rfl (fun ls hl => ?_)
                  refine lv_goto (tgt := 61) hx hb d_Mo_attempt_107 (by decide) ?_
                  refine lv_iload hx hb d_Mo_attempt_61 (lv_at hl 0 rfl) ?_
                  refine lv_iload hx hb d_Mo_attempt_63 (lv_at hl 1 rfl) ?_
                  refine nb_ge (tgt := 110) hx hb d_Mo_attempt_65 (by decide) (by decide) (by decide) (fun h_18 => ?_) (fun h_18 => ?_)
                  · refine lv_aload_n hx hb d_Mo_attempt_110 rfl (lv_at hl 4 rfl) ?_
                    refine lv_iload hx hb d_Mo_attempt_111 (lv_at hl 1 rfl) ?_
                    refine va_put (D := (dC, dI)) (ci := 3) (v := .int (nI 3)) (ty := .int) (C := R_Mo) (T := F_Mo) (N := 15) hx hb hts in_Mo t_Mo t_Mo_ok n_Mo hown hK hP hD hS 0 rfl rfl 9 (by decide) (hts _ kw_448) (fun _ h9 => h9) rfl (by decide +kernel) rfl rfl (Nat.le_of_ble_eq_true rfl) d_Mo_attempt_113 (fun H locs hP hD hS => ?_)
                    have hP : va_P (dC, dI) classes [(hm, .inr (3, [.int sc, .ref hw, .int (nI cn), .int (nI fu), .int lf, .int (bI dd), .int dn, .int rn, .int (bI tr), .int (nI 3), .ref he, .int (hh (hh (hh (nI 0) (M ((17 * k) + 1))) (M ((17 * k) + 2))) (M ((17 * k) + 3))), .ref hd, .ref hen, .ref hnd])), (hw, .inl (cI, 160, .inl M)), (he, .inl (cI, 3, .inl (upd (upd (upd en 0 (M ((17 * k) + 1))) 1 (M ((17 * k) + 2))) 2 (M ((17 * k) + 3))))), (hd, .inl (cI, 6, .inl dg_4)), (hen, .inl (cI, 6, .inl ed_4)), (hnd, .inl (cI, 16, .inl nd_4))] H := hP
                    have hD : va_D A [(hm, .inr (3, [.int sc, .ref hw, .int (nI cn), .int (nI fu), .int lf, .int (bI dd), .int dn, .int rn, .int (bI tr), .int (nI 3), .ref he, .int (hh (hh (hh (nI 0) (M ((17 * k) + 1))) (M ((17 * k) + 2))) (M ((17 * k) + 3))), .ref hd, .ref hen, .ref hnd])), (hw, .inl (cI, 160, .inl M)), (he, .inl (cI, 3, .inl (upd (upd (upd en 0 (M ((17 * k) + 1))) 1 (M ((17 * k) + 2))) 2 (M ((17 * k) + 3))))), (hd, .inl (cI, 6, .inl dg_4)), (hen, .inl (cI, 6, .inl ed_4)), (hnd, .inl (cI, 16, .inl nd_4))] := hD
                    refine lv_iload hx hb d_Mo_attempt_116 (lv_at hl 1 rfl) ?_
                    refine lv_iconst (v := (nI 3)) hx hb d_Mo_attempt_118 (by decide) ?_
                    refine nb_ne (tgt := 126) hx hb d_Mo_attempt_119 (by decide) (by decide) (by decide) (fun h_19 => ?_) (fun h_19 => ?_)
                    · exact absurd h_19 (by decide)
                    · refine lv_iconst (v := (nI 1)) hx hb d_Mo_attempt_122 (by decide) ?_
                      refine lv_goto (tgt := 127) hx hb d_Mo_attempt_123 (by decide) ?_
                      exact W.zret (v := (bI true)) hx hb hr (bI_narrow _) (fun t ht hW => ⟨⟨_, (3, hh (hh (hh (nI 0) (M ((17 * k) + 1))) (M ((17 * k) + 2))) (M ((17 * k) + 3)), upd (upd (upd en 0 (M ((17 * k) + 1))) 1 (M ((17 * k) + 2))) 2 (M ((17 * k) + 3)), dg_4, ed_4, nd_4), rfl, ⟨true, rfl, (by exact att_3 h_1 h_2 h_3 hu_4.symm hg)⟩, by rw [ht]; exact hP, hD⟩, hS.F ht⟩) hS.2.2 d_Mo_attempt_127
                  · exact absurd h_18 (by decide)
        · subst h_5
          refine lv_iconst (v := (nI 0)) hx hb d_Mo_attempt_49 (by decide) ?_
          exact W.zret (v := (bI false)) hx hb hr (bI_narrow _) (fun t ht hW => ⟨⟨_, (0, (nI 0), en, dg_4, ed_4, nd_4), rfl, ⟨false, rfl, (by exact att_sg h_1 h_2 h_3 hu_4.symm)⟩, by rw [ht]; exact hP, hD⟩, hS.F ht⟩) hS.2.2 d_Mo_attempt_50
set_option maxHeartbeats 4000000 in
set_option maxRecDepth 100000 in
theorem c_Mo_pack (l : Launch) (dC : Nat → ClassId) (dI : Nat → Nat → Nat) (cI : ClassId) (hm : Nat) (b : Nat) (q : Nat) (ve : Int32) (x : Int32) (sc : Int32) (hw : Nat) (cn : Nat) (fu : Nat) (lf : Int32) (dd : Bool) (dn : Int32) (rn : Int32) (tr : Bool) (lg : Nat) (he : Nat) (me : Int32) (hd : Nat) (hen : Nat) (hnd : Nat) (M : Nat → Int32) (hb160 : b + 17 ≤ 160) (sz : Nat) : Met l y_Mo_pack w_Mo_pack ({ frames := 0, cells := 0, slots := 0, locals := 0 }) (va_Pc [.ref hm, .int (nI b), .int (nI q), .int ve, .int x] (fun U => U.heap.size = sz ∧ va_P (dC, dI) classes [(hm, .inr (3, [.int sc, .ref hw, .int (nI cn), .int (nI fu), .int lf, .int (bI dd), .int dn, .int rn, .int (bI tr), .int (nI lg), .ref he, .int me, .ref hd, .ref hen, .ref hnd])), (hw, .inl (cI, 160, .inl M))] U.heap ∧ KN dC dI cI U ∧ va_D (fun _ => True) [(hm, .inr (3, [.int sc, .ref hw, .int (nI cn), .int (nI fu), .int lf, .int (bI dd), .int dn, .int rn, .int (bI tr), .int (nI lg), .ref he, .int me, .ref hd, .ref hen, .ref hnd])), (hw, .inl (cI, 160, .inl M))])) (va_Qv (fun u : (Nat → Int32) => upd (upd (upd M b ve) (b + 4) (nI q)) (b + 14) x = u) (fun (u : (Nat → Int32)) t => va_P (dC, dI) classes [(hm, .inr (3, [.int sc, .ref hw, .int (nI cn), .int (nI fu), .int lf, .int (bI dd), .int dn, .int rn, .int (bI tr), .int (nI lg), .ref he, .int me, .ref hd, .ref hen, .ref hnd])), (hw, .inl (cI, 160, .inl u))] t.heap ∧ va_D (va_A [(hm, .inr (3, [.int sc, .ref hw, .int (nI cn), .int (nI fu), .int lf, .int (bI dd), .int dn, .int rn, .int (bI tr), .int (nI lg), .ref he, .int me, .ref hd, .ref hen, .ref hnd])), (hw, .inl (cI, 160, .inl M))] sz) [(hm, .inr (3, [.int sc, .ref hw, .int (nI cn), .int (nI fu), .int lf, .int (bI dd), .int dn, .int rn, .int (bI tr), .int (nI lg), .ref he, .int me, .ref hd, .ref hen, .ref hnd])), (hw, .inl (cI, 160, .inl u))]) (va_A [(hm, .inr (3, [.int sc, .ref hw, .int (nI cn), .int (nI fu), .int lf, .int (bI dd), .int dn, .int rn, .int (bI tr), .int (nI lg), .ref he, .int me, .ref hd, .ref hen, .ref hnd])), (hw, .inl (cI, 160, .inl M))] sz)) 0 0 (va_A [(hm, .inr (3, [.int sc, .ref hw, .int (nI cn), .int (nI fu), .int lf, .int (bI dd), .int dn, .int rn, .int (bI tr), .int (nI lg), .ref he, .int me, .ref hd, .ref hen, .ref hnd])), (hw, .inl (cI, 160, .inl M))] sz) := by
  refine Met.ofW (cc := b_Mo_pack) (maxL := 5) (ret := none) (by decide) rfl ?_
  intro p e s m args below meth c s₁ B hml hv
  obtain ⟨rfl, hsz, hP, hKN, hD0⟩ := hv
  have hK := hKN.1
  have hx := B.exec
  have hb := B.bytes
  have hr := B.returns
  have hts := fun (w : Cond) (h : w ∈ gt) => atoms_spec (ws := w_Mo_pack) B.pre w (List.mem_cons_of_mem _ h)
  have hown : s.vm.findClass R_Mo = some m.cls := findClass_of_methodNamed B.named
  have hlocks := B.notSynchronized
  subst hsz
  have hD := hD0.self (sz := s.heap.size)
  generalize hAe : va_A [(hm, .inr (3, [.int sc, .ref hw, .int (nI cn), .int (nI fu), .int lf, .int (bI dd), .int dn, .int rn, .int (bI tr), .int (nI lg), .ref he, .int me, .ref hd, .ref hen, .ref hnd])), (hw, .inl (cI, 160, .inl M))] s.heap.size = A at hD ⊢
  have hA : ∀ q : Nat, s.heap.size ≤ q → A q := fun q h => by rw [← hAe]; exact Or.inr h
  have hS : va_S A s.heap s.heap [] := va_S.rf
  have hP : va_P (dC, dI) classes [(hm, .inr (3, [.int sc, .ref hw, .int (nI cn), .int (nI fu), .int lf, .int (bI dd), .int dn, .int rn, .int (bI tr), .int (nI lg), .ref he, .int me, .ref hd, .ref hen, .ref hnd])), (hw, .inl (cI, 160, .inl M))] s.heap := hP
  clear hAe hD0
  have hl := lv_entry ([.ref hm, .int (nI b), .int (nI q), .int ve, .int x]) (n := 5) (Nat.le_of_ble_eq_true rfl)
  rw [lg_entry_eq]
  generalize (lg_sl ([.ref hm, .int (nI b), .int (nI q), .int ve, .int x]) ++ List.replicate (5 - (lg_sl ([.ref hm, .int (nI b), .int (nI q), .int ve, .int x])).length) Slot.unset).toArray = ls at hl ⊢
  have hl : lv_has ls 5 [(0, .ref hm), (1, .int (nI b)), (2, .int (nI q)), (3, .int ve), (4, .int x)] := hl
  refine lv_aload_n hx hb d_Mo_pack_0 rfl (lv_at hl 0 rfl) ?_
  refine va_get (D := (dC, dI)) (ci := 3) (v := .ref hw) (C := R_Mo) (T := F_Mo) (N := 15) hx hb hts in_Mo hown hK hP 0 rfl rfl 1 (by decide) (hts _ kw_440) (fun _ h9 => h9) rfl d_Mo_pack_1 ?_
  refine lv_iload_n hx hb d_Mo_pack_4 rfl (lv_at hl 1 rfl) ?_
  refine lv_iload_n hx hb d_Mo_pack_5 rfl (lv_at hl 3 rfl) ?_
  refine ar_st (k := b) hx hb hK hP hD hS 1 0 rfl rfl (by omega) (by first | decide | omega) d_Mo_pack_6 (fun H locs hP hD hS => ?_)
  have hP : va_P (dC, dI) classes [(hm, .inr (3, [.int sc, .ref hw, .int (nI cn), .int (nI fu), .int lf, .int (bI dd), .int dn, .int rn, .int (bI tr), .int (nI lg), .ref he, .int me, .ref hd, .ref hen, .ref hnd])), (hw, .inl (cI, 160, .inl (upd M b ve)))] H := hP
  have hD : va_D A [(hm, .inr (3, [.int sc, .ref hw, .int (nI cn), .int (nI fu), .int lf, .int (bI dd), .int dn, .int rn, .int (bI tr), .int (nI lg), .ref he, .int me, .ref hd, .ref hen, .ref hnd])), (hw, .inl (cI, 160, .inl (upd M b ve)))] := hD
  refine lv_aload_n hx hb d_Mo_pack_7 rfl (lv_at hl 0 rfl) ?_
  refine va_get (D := (dC, dI)) (ci := 3) (v := .ref hw) (C := R_Mo) (T := F_Mo) (N := 15) hx hb hts in_Mo hown hK hP 0 rfl rfl 1 (by decide) (hts _ kw_440) (fun _ h9 => h9) rfl d_Mo_pack_8 ?_
  refine lv_iload_n hx hb d_Mo_pack_11 rfl (lv_at hl 1 rfl) ?_
  refine lv_iconst (v := (nI 4)) hx hb d_Mo_pack_12 (by decide) ?_
  refine lv_iadd hx hb d_Mo_pack_13 ?_
  refine tp (nI_add _ _) ?_
  refine lv_iload_n hx hb d_Mo_pack_14 rfl (lv_at hl 2 rfl) ?_
  refine ar_st (k := b + 4) hx hb hK hP hD hS 1 0 rfl rfl (by omega) (by first | decide | omega) d_Mo_pack_15 (fun H locs hP hD hS => ?_)
  have hP : va_P (dC, dI) classes [(hm, .inr (3, [.int sc, .ref hw, .int (nI cn), .int (nI fu), .int lf, .int (bI dd), .int dn, .int rn, .int (bI tr), .int (nI lg), .ref he, .int me, .ref hd, .ref hen, .ref hnd])), (hw, .inl (cI, 160, .inl (upd (upd M b ve) (b + 4) (nI q))))] H := hP
  have hD : va_D A [(hm, .inr (3, [.int sc, .ref hw, .int (nI cn), .int (nI fu), .int lf, .int (bI dd), .int dn, .int rn, .int (bI tr), .int (nI lg), .ref he, .int me, .ref hd, .ref hen, .ref hnd])), (hw, .inl (cI, 160, .inl (upd (upd M b ve) (b + 4) (nI q))))] := hD
  refine lv_aload_n hx hb d_Mo_pack_16 rfl (lv_at hl 0 rfl) ?_
  refine va_get (D := (dC, dI)) (ci := 3) (v := .ref hw) (C := R_Mo) (T := F_Mo) (N := 15) hx hb hts in_Mo hown hK hP 0 rfl rfl 1 (by decide) (hts _ kw_440) (fun _ h9 => h9) rfl d_Mo_pack_17 ?_
  refine lv_iload_n hx hb d_Mo_pack_20 rfl (lv_at hl 1 rfl) ?_
  refine lv_bipush (v := (nI 14)) hx hb d_Mo_pack_21 (by decide) ?_
  refine lv_iadd hx hb d_Mo_pack_23 ?_
  refine tp (nI_add _ _) ?_
  refine lv_iload hx hb d_Mo_pack_24 (lv_at hl 4 rfl) ?_
  refine ar_st (k := b + 14) hx hb hK hP hD hS 1 0 rfl rfl (by omega) (by first | decide | omega) d_Mo_pack_26 (fun H locs hP hD hS => ?_)
  have hP : va_P (dC, dI) classes [(hm, .inr (3, [.int sc, .ref hw, .int (nI cn), .int (nI fu), .int lf, .int (bI dd), .int dn, .int rn, .int (bI tr), .int (nI lg), .ref he, .int me, .ref hd, .ref hen, .ref hnd])), (hw, .inl (cI, 160, .inl (upd (upd (upd M b ve) (b + 4) (nI q)) (b + 14) x)))] H := hP
  have hD : va_D A [(hm, .inr (3, [.int sc, .ref hw, .int (nI cn), .int (nI fu), .int lf, .int (bI dd), .int dn, .int rn, .int (bI tr), .int (nI lg), .ref he, .int me, .ref hd, .ref hen, .ref hnd])), (hw, .inl (cI, 160, .inl (upd (upd (upd M b ve) (b + 4) (nI q)) (b + 14) x)))] := hD
  exact W.vret hx hb hr (fun t ht hW => ⟨⟨(upd (upd (upd M b ve) (b + 4) (nI q)) (b + 14) x), rfl, (by first | rfl | (simp only []; done) | (simp only []; rfl) | (simp []; done)), by rw [ht]; exact hP, hD⟩, hS.F ht⟩) hS.2.2 d_Mo_pack_27
set_option maxHeartbeats 4000000 in
set_option maxRecDepth 100000 in
theorem c_Mo_seal (l : Launch) (dC : Nat → ClassId) (dI : Nat → Nat → Nat) (cI : ClassId) (hm : Nat) (b : Nat) (q : Nat) (sc : Int32) (hw : Nat) (cn : Nat) (fu : Nat) (lf : Int32) (dd : Bool) (dn : Int32) (rn : Int32) (tr : Bool) (lg : Nat) (he : Nat) (me : Int32) (hd : Nat) (hen : Nat) (hnd : Nat) (M : Nat → Int32) (dg : Nat → Int32) (ed : Nat → Int32) (nd : Nat → Int32) (hb160 : b + 17 ≤ 160) (hq8 : q < 8) (sz : Nat) : Met l y_Mo_seal w_Mo_seal ({ frames := 4, cells := 0, slots := 0, locals := 93 }) (va_Pc [.ref hm, .int (nI b), .int (nI q)] (fun U => U.heap.size = sz ∧ va_P (dC, dI) classes [(hm, .inr (3, [.int sc, .ref hw, .int (nI cn), .int (nI fu), .int lf, .int (bI dd), .int dn, .int rn, .int (bI tr), .int (nI lg), .ref he, .int me, .ref hd, .ref hen, .ref hnd])), (hw, .inl (cI, 160, .inl M)), (hd, .inl (cI, 6, .inl dg)), (hen, .inl (cI, 6, .inl ed)), (hnd, .inl (cI, 16, .inl nd))] U.heap ∧ KN dC dI cI U ∧ va_D (fun _ => True) [(hm, .inr (3, [.int sc, .ref hw, .int (nI cn), .int (nI fu), .int lf, .int (bI dd), .int dn, .int rn, .int (bI tr), .int (nI lg), .ref he, .int me, .ref hd, .ref hen, .ref hnd])), (hw, .inl (cI, 160, .inl M)), (hd, .inl (cI, 6, .inl dg)), (hen, .inl (cI, 6, .inl ed)), (hnd, .inl (cI, 16, .inl nd))])) (va_Qv (fun u : (Nat → Int32) × (Nat → Int32) × (Nat → Int32) × (Nat → Int32) => sealM sc q b M = u.1) (fun (u : (Nat → Int32) × (Nat → Int32) × (Nat → Int32) × (Nat → Int32)) t => va_P (dC, dI) classes [(hm, .inr (3, [.int sc, .ref hw, .int (nI cn), .int (nI fu), .int lf, .int (bI dd), .int dn, .int rn, .int (bI tr), .int (nI lg), .ref he, .int me, .ref hd, .ref hen, .ref hnd])), (hw, .inl (cI, 160, .inl u.1)), (hd, .inl (cI, 6, .inl u.2.1)), (hen, .inl (cI, 6, .inl u.2.2.1)), (hnd, .inl (cI, 16, .inl u.2.2.2))] t.heap ∧ va_D (va_A [(hm, .inr (3, [.int sc, .ref hw, .int (nI cn), .int (nI fu), .int lf, .int (bI dd), .int dn, .int rn, .int (bI tr), .int (nI lg), .ref he, .int me, .ref hd, .ref hen, .ref hnd])), (hw, .inl (cI, 160, .inl M)), (hd, .inl (cI, 6, .inl dg)), (hen, .inl (cI, 6, .inl ed)), (hnd, .inl (cI, 16, .inl nd))] sz) [(hm, .inr (3, [.int sc, .ref hw, .int (nI cn), .int (nI fu), .int lf, .int (bI dd), .int dn, .int rn, .int (bI tr), .int (nI lg), .ref he, .int me, .ref hd, .ref hen, .ref hnd])), (hw, .inl (cI, 160, .inl u.1)), (hd, .inl (cI, 6, .inl u.2.1)), (hen, .inl (cI, 6, .inl u.2.2.1)), (hnd, .inl (cI, 16, .inl u.2.2.2))]) (va_A [(hm, .inr (3, [.int sc, .ref hw, .int (nI cn), .int (nI fu), .int lf, .int (bI dd), .int dn, .int rn, .int (bI tr), .int (nI lg), .ref he, .int me, .ref hd, .ref hen, .ref hnd])), (hw, .inl (cI, 160, .inl M)), (hd, .inl (cI, 6, .inl dg)), (hen, .inl (cI, 6, .inl ed)), (hnd, .inl (cI, 16, .inl nd))] sz)) 0 0 (va_A [(hm, .inr (3, [.int sc, .ref hw, .int (nI cn), .int (nI fu), .int lf, .int (bI dd), .int dn, .int rn, .int (bI tr), .int (nI lg), .ref he, .int me, .ref hd, .ref hen, .ref hnd])), (hw, .inl (cI, 160, .inl M)), (hd, .inl (cI, 6, .inl dg)), (hen, .inl (cI, 6, .inl ed)), (hnd, .inl (cI, 16, .inl nd))] sz) := by
  refine Met.ofW (cc := b_Mo_seal) (maxL := 5) (ret := none) (by decide) rfl ?_
  intro p e s m args below meth c s₁ B hml hv
  obtain ⟨rfl, hsz, hP, hKN, hD0⟩ := hv
  have hK := hKN.1
  have hx := B.exec
  have hb := B.bytes
  have hr := B.returns
  have hts := fun (w : Cond) (h : w ∈ gt) => atoms_spec (ws := w_Mo_seal) B.pre w (List.mem_cons_of_mem _ h)
  have hown : s.vm.findClass R_Mo = some m.cls := findClass_of_methodNamed B.named
  have hlocks := B.notSynchronized
  subst hsz
  have hD := hD0.self (sz := s.heap.size)
  generalize hAe : va_A [(hm, .inr (3, [.int sc, .ref hw, .int (nI cn), .int (nI fu), .int lf, .int (bI dd), .int dn, .int rn, .int (bI tr), .int (nI lg), .ref he, .int me, .ref hd, .ref hen, .ref hnd])), (hw, .inl (cI, 160, .inl M)), (hd, .inl (cI, 6, .inl dg)), (hen, .inl (cI, 6, .inl ed)), (hnd, .inl (cI, 16, .inl nd))] s.heap.size = A at hD ⊢
  have hA : ∀ q : Nat, s.heap.size ≤ q → A q := fun q h => by rw [← hAe]; exact Or.inr h
  have hS : va_S A s.heap s.heap [] := va_S.rf
  have hP : va_P (dC, dI) classes [(hm, .inr (3, [.int sc, .ref hw, .int (nI cn), .int (nI fu), .int lf, .int (bI dd), .int dn, .int rn, .int (bI tr), .int (nI lg), .ref he, .int me, .ref hd, .ref hen, .ref hnd])), (hw, .inl (cI, 160, .inl M)), (hd, .inl (cI, 6, .inl dg)), (hen, .inl (cI, 6, .inl ed)), (hnd, .inl (cI, 16, .inl nd))] s.heap := hP
  clear hAe hD0
  have hl := lv_entry ([.ref hm, .int (nI b), .int (nI q)]) (n := 5) (Nat.le_of_ble_eq_true rfl)
  rw [lg_entry_eq]
  generalize (lg_sl ([.ref hm, .int (nI b), .int (nI q)]) ++ List.replicate (5 - (lg_sl ([.ref hm, .int (nI b), .int (nI q)])).length) Slot.unset).toArray = ls at hl ⊢
  have hl : lv_has ls 5 [(0, .ref hm), (1, .int (nI b)), (2, .int (nI q))] := hl
  refine lv_iconst (v := (nI 0)) hx hb d_Mo_seal_0 (by decide) ?_
  refine lv_istore_n (lv' := [(3, .int (nI 0)), (0, .ref hm), (1, .int (nI b)), (2, .int (nI q))]) hx hb d_Mo_seal_1 rfl hl (by decide) rfl (fun ls hl => ?_)
  refine lv_iload_n hx hb d_Mo_seal_2 rfl (lv_at hl 0 rfl) ?_
  refine lv_iconst (v := (nI 3)) hx hb d_Mo_seal_3 (by decide) ?_
  refine nb_ge (tgt := 38) hx hb d_Mo_seal_4 (by decide) (by decide) (by decide) (fun h_1 => ?_) (fun h_1 => ?_)
  · exact absurd h_1 (by decide)
  · refine lv_aload_n hx hb d_Mo_seal_7 rfl (lv_at hl 1 rfl) ?_
    refine va_get (D := (dC, dI)) (ci := 3) (v := .ref hw) (C := R_Mo) (T := F_Mo) (N := 15) hx hb hts in_Mo hown hK hP 0 rfl rfl 1 (by decide) (hts _ kw_440) (fun _ h9 => h9) rfl d_Mo_seal_8 ?_
    refine lv_iload_n hx hb d_Mo_seal_11 rfl (lv_at hl 2 rfl) ?_
    refine lv_iconst (v := (nI 1)) hx hb d_Mo_seal_12 (by decide) ?_
    refine lv_iadd hx hb d_Mo_seal_13 ?_
    refine tp (nI_add _ _) ?_
    refine lv_iload_n hx hb d_Mo_seal_14 rfl (lv_at hl 0 rfl) ?_
    refine lv_iadd hx hb d_Mo_seal_15 ?_
    refine tp (y := (nI (b + 1))) (nI_add _ _) ?_
    refine lv_aload_n hx hb d_Mo_seal_16 rfl (lv_at hl 1 rfl) ?_
    refine va_get (D := (dC, dI)) (ci := 3) (v := .ref hw) (C := R_Mo) (T := F_Mo) (N := 15) hx hb hts in_Mo hown hK hP 0 rfl rfl 1 (by decide) (hts _ kw_440) (fun _ h9 => h9) rfl d_Mo_seal_17 ?_
    refine lv_iload_n hx hb d_Mo_seal_20 rfl (lv_at hl 2 rfl) ?_
    refine lv_bipush (v := (nI 14)) hx hb d_Mo_seal_21 (by decide) ?_
    refine lv_iadd hx hb d_Mo_seal_23 ?_
    refine tp (nI_add _ _) ?_
    refine lv_iload_n hx hb d_Mo_seal_24 rfl (lv_at hl 0 rfl) ?_
    refine lv_iadd hx hb d_Mo_seal_25 ?_
    refine tp (y := (nI (b + 14))) (nI_add _ _) ?_
    refine ar_ld (k := b + 14) hx hb hK hP 1 0 rfl rfl (by omega) (by first | decide | omega) d_Mo_seal_26 ?_
    refine lv_iload_n hx hb d_Mo_seal_27 rfl (lv_at hl 0 rfl) ?_
    refine pr_call (va_runS (As := [.int (M (b + 14)), .int (nI 0)]) (rest := [.int (nI (b + 1)), .ref hw]) ⟨hx, hb, hml, hown, hts⟩ (c_Mo_h l dC dI cI (a := M (b + 14)) (b := (nI 0)) ) ⟨callB_of 2 hts (gd kw_411) rfl rfl rfl (hts _ kw_41) (hts _ kw_409) (by decide +kernel) ⟨Nat.le_of_ble_eq_true rfl, Nat.le_of_ble_eq_true rfl⟩, (hts _ kw_410)⟩ ⟨fun a U g mk q => by obtain ⟨q0, qP, qK⟩ := q; exact ⟨q0, qP, qK.call⟩, fun U hU hW => ⟨rfl, by rw [hU]; exact hP.sub [] rfl, hKN.warm hW⟩⟩ rfl rfl hl.1 rfl (lv_room (Nat.le_of_ble_eq_true rfl)) d_Mo_seal_28 ⟨Nat.zero_le _, Nat.zero_le _⟩) ?_
    refine ar_st (k := b + 1) hx hb hK hP hD hS 1 0 rfl rfl (by omega) (by first | decide | omega) d_Mo_seal_31 (fun H locs hP hD hS => ?_)
    have hP : va_P (dC, dI) classes [(hm, .inr (3, [.int sc, .ref hw, .int (nI cn), .int (nI fu), .int lf, .int (bI dd), .int dn, .int rn, .int (bI tr), .int (nI lg), .ref he, .int me, .ref hd, .ref hen, .ref hnd])), (hw, .inl (cI, 160, .inl (upd M (b + 1) (hh (M (b + 14)) (nI 0))))), (hd, .inl (cI, 6, .inl dg)), (hen, .inl (cI, 6, .inl ed)), (hnd, .inl (cI, 16, .inl nd))] H := hP
    have hD : va_D A [(hm, .inr (3, [.int sc, .ref hw, .int (nI cn), .int (nI fu), .int lf, .int (bI dd), .int dn, .int rn, .int (bI tr), .int (nI lg), .ref he, .int me, .ref hd, .ref hen, .ref hnd])), (hw, .inl (cI, 160, .inl (upd M (b + 1) (hh (M (b + 14)) (nI 0))))), (hd, .inl (cI, 6, .inl dg)), (hen, .inl (cI, 6, .inl ed)), (hnd, .inl (cI, 16, .inl nd))] := hD
    refine lv_iinc (k := 0) (v := (nI 1)) (lv' := [(3, .int (nI 1)), (0, .ref hm), (1, .int (nI b)), (2, .int (nI q))]) hx hb d_Mo_seal_32 hl rfl (by decide) (by decide) rfl (fun ls hl => ?_)
    refine lv_goto (tgt := 2) hx hb d_Mo_seal_35 (by decide) ?_
    refine lv_iload_n hx hb d_Mo_seal_2 rfl (lv_at hl 0 rfl) ?_
    refine lv_iconst (v := (nI 3)) hx hb d_Mo_seal_3 (by decide) ?_
    refine nb_ge (tgt := 38) hx hb d_Mo_seal_4 (by decide) (by decide) (by decide) (fun h_2 => ?_) (fun h_2 => ?_)
    · exact absurd h_2 (by decide)
    · refine lv_aload_n hx hb d_Mo_seal_7 rfl (lv_at hl 1 rfl) ?_
      refine va_get (D := (dC, dI)) (ci := 3) (v := .ref hw) (C := R_Mo) (T := F_Mo) (N := 15) hx hb hts in_Mo hown hK hP 0 rfl rfl 1 (by decide) (hts _ kw_440) (fun _ h9 => h9) rfl d_Mo_seal_8 ?_
      refine lv_iload_n hx hb d_Mo_seal_11 rfl (lv_at hl 2 rfl) ?_
      refine lv_iconst (v := (nI 1)) hx hb d_Mo_seal_12 (by decide) ?_
      refine lv_iadd hx hb d_Mo_seal_13 ?_
      refine tp (nI_add _ _) ?_
      refine lv_iload_n hx hb d_Mo_seal_14 rfl (lv_at hl 0 rfl) ?_
      refine lv_iadd hx hb d_Mo_seal_15 ?_
      refine tp (y := (nI (b + 2))) (nI_add _ _) ?_
      refine lv_aload_n hx hb d_Mo_seal_16 rfl (lv_at hl 1 rfl) ?_
      refine va_get (D := (dC, dI)) (ci := 3) (v := .ref hw) (C := R_Mo) (T := F_Mo) (N := 15) hx hb hts in_Mo hown hK hP 0 rfl rfl 1 (by decide) (hts _ kw_440) (fun _ h9 => h9) rfl d_Mo_seal_17 ?_
      refine lv_iload_n hx hb d_Mo_seal_20 rfl (lv_at hl 2 rfl) ?_
      refine lv_bipush (v := (nI 14)) hx hb d_Mo_seal_21 (by decide) ?_
      refine lv_iadd hx hb d_Mo_seal_23 ?_
      refine tp (nI_add _ _) ?_
      refine lv_iload_n hx hb d_Mo_seal_24 rfl (lv_at hl 0 rfl) ?_
      refine lv_iadd hx hb d_Mo_seal_25 ?_
      refine tp (y := (nI (b + 15))) (nI_add _ _) ?_
      refine ar_ld (k := b + 15) hx hb hK hP 1 0 rfl rfl (by omega) (by first | decide | omega) d_Mo_seal_26 ?_
      refine tp (y := M (b + 15)) (by rw [pk_un (by omega)]) ?_
      refine lv_iload_n hx hb d_Mo_seal_27 rfl (lv_at hl 0 rfl) ?_
      refine pr_call (va_runS (As := [.int (M (b + 15)), .int (nI 1)]) (rest := [.int (nI (b + 2)), .ref hw]) ⟨hx, hb, hml, hown, hts⟩ (c_Mo_h l dC dI cI (a := M (b + 15)) (b := (nI 1)) ) ⟨callB_of 2 hts (gd kw_411) rfl rfl rfl (hts _ kw_41) (hts _ kw_409) (by decide +kernel) ⟨Nat.le_of_ble_eq_true rfl, Nat.le_of_ble_eq_true rfl⟩, (hts _ kw_410)⟩ ⟨fun a U g mk q => by obtain ⟨q0, qP, qK⟩ := q; exact ⟨q0, qP, qK.call⟩, fun U hU hW => ⟨rfl, by rw [hU]; exact hP.sub [] rfl, hKN.warm hW⟩⟩ rfl rfl hl.1 rfl (lv_room (Nat.le_of_ble_eq_true rfl)) d_Mo_seal_28 ⟨Nat.zero_le _, Nat.zero_le _⟩) ?_
      refine ar_st (k := b + 2) hx hb hK hP hD hS 1 0 rfl rfl (by omega) (by first | decide | omega) d_Mo_seal_31 (fun H locs hP hD hS => ?_)
      have hP : va_P (dC, dI) classes [(hm, .inr (3, [.int sc, .ref hw, .int (nI cn), .int (nI fu), .int lf, .int (bI dd), .int dn, .int rn, .int (bI tr), .int (nI lg), .ref he, .int me, .ref hd, .ref hen, .ref hnd])), (hw, .inl (cI, 160, .inl (upd (upd M (b + 1) (hh (M (b + 14)) (nI 0))) (b + 2) (hh (M (b + 15)) (nI 1))))), (hd, .inl (cI, 6, .inl dg)), (hen, .inl (cI, 6, .inl ed)), (hnd, .inl (cI, 16, .inl nd))] H := hP
      have hD : va_D A [(hm, .inr (3, [.int sc, .ref hw, .int (nI cn), .int (nI fu), .int lf, .int (bI dd), .int dn, .int rn, .int (bI tr), .int (nI lg), .ref he, .int me, .ref hd, .ref hen, .ref hnd])), (hw, .inl (cI, 160, .inl (upd (upd M (b + 1) (hh (M (b + 14)) (nI 0))) (b + 2) (hh (M (b + 15)) (nI 1))))), (hd, .inl (cI, 6, .inl dg)), (hen, .inl (cI, 6, .inl ed)), (hnd, .inl (cI, 16, .inl nd))] := hD
      refine lv_iinc (k := 0) (v := (nI 2)) (lv' := [(3, .int (nI 2)), (0, .ref hm), (1, .int (nI b)), (2, .int (nI q))]) hx hb d_Mo_seal_32 hl rfl (by decide) (by decide) rfl (fun ls hl => ?_)
      refine lv_goto (tgt := 2) hx hb d_Mo_seal_35 (by decide) ?_
      refine lv_iload_n hx hb d_Mo_seal_2 rfl (lv_at hl 0 rfl) ?_
      refine lv_iconst (v := (nI 3)) hx hb d_Mo_seal_3 (by decide) ?_
      refine nb_ge (tgt := 38) hx hb d_Mo_seal_4 (by decide) (by decide) (by decide) (fun h_3 => ?_) (fun h_3 => ?_)
      · exact absurd h_3 (by decide)
      · refine lv_aload_n hx hb d_Mo_seal_7 rfl (lv_at hl 1 rfl) ?_
        refine va_get (D := (dC, dI)) (ci := 3) (v := .ref hw) (C := R_Mo) (T := F_Mo) (N := 15) hx hb hts in_Mo hown hK hP 0 rfl rfl 1 (by decide) (hts _ kw_440) (fun _ h9 => h9) rfl d_Mo_seal_8 ?_
        refine lv_iload_n hx hb d_Mo_seal_11 rfl (lv_at hl 2 rfl) ?_
        refine lv_iconst (v := (nI 1)) hx hb d_Mo_seal_12 (by decide) ?_
        refine lv_iadd hx hb d_Mo_seal_13 ?_
        refine tp (nI_add _ _) ?_
        refine lv_iload_n hx hb d_Mo_seal_14 rfl (lv_at hl 0 rfl) ?_
        refine lv_iadd hx hb d_Mo_seal_15 ?_
        refine tp (y := (nI (b + 3))) (nI_add _ _) ?_
        refine lv_aload_n hx hb d_Mo_seal_16 rfl (lv_at hl 1 rfl) ?_
        refine va_get (D := (dC, dI)) (ci := 3) (v := .ref hw) (C := R_Mo) (T := F_Mo) (N := 15) hx hb hts in_Mo hown hK hP 0 rfl rfl 1 (by decide) (hts _ kw_440) (fun _ h9 => h9) rfl d_Mo_seal_17 ?_
        refine lv_iload_n hx hb d_Mo_seal_20 rfl (lv_at hl 2 rfl) ?_
        refine lv_bipush (v := (nI 14)) hx hb d_Mo_seal_21 (by decide) ?_
        refine lv_iadd hx hb d_Mo_seal_23 ?_
        refine tp (nI_add _ _) ?_
        refine lv_iload_n hx hb d_Mo_seal_24 rfl (lv_at hl 0 rfl) ?_
        refine lv_iadd hx hb d_Mo_seal_25 ?_
        refine tp (y := (nI (b + 16))) (nI_add _ _) ?_
        refine ar_ld (k := b + 16) hx hb hK hP 1 0 rfl rfl (by omega) (by first | decide | omega) d_Mo_seal_26 ?_
        refine tp (y := M (b + 16)) (by rw [pk_un (by omega)]; rw [pk_un (by omega)]) ?_
        refine lv_iload_n hx hb d_Mo_seal_27 rfl (lv_at hl 0 rfl) ?_
        refine pr_call (va_runS (As := [.int (M (b + 16)), .int (nI 2)]) (rest := [.int (nI (b + 3)), .ref hw]) ⟨hx, hb, hml, hown, hts⟩ (c_Mo_h l dC dI cI (a := M (b + 16)) (b := (nI 2)) ) ⟨callB_of 2 hts (gd kw_411) rfl rfl rfl (hts _ kw_41) (hts _ kw_409) (by decide +kernel) ⟨Nat.le_of_ble_eq_true rfl, Nat.le_of_ble_eq_true rfl⟩, (hts _ kw_410)⟩ ⟨fun a U g mk q => by obtain ⟨q0, qP, qK⟩ := q; exact ⟨q0, qP, qK.call⟩, fun U hU hW => ⟨rfl, by rw [hU]; exact hP.sub [] rfl, hKN.warm hW⟩⟩ rfl rfl hl.1 rfl (lv_room (Nat.le_of_ble_eq_true rfl)) d_Mo_seal_28 ⟨Nat.zero_le _, Nat.zero_le _⟩) ?_
        refine ar_st (k := b + 3) hx hb hK hP hD hS 1 0 rfl rfl (by omega) (by first | decide | omega) d_Mo_seal_31 (fun H locs hP hD hS => ?_)
        have hP : va_P (dC, dI) classes [(hm, .inr (3, [.int sc, .ref hw, .int (nI cn), .int (nI fu), .int lf, .int (bI dd), .int dn, .int rn, .int (bI tr), .int (nI lg), .ref he, .int me, .ref hd, .ref hen, .ref hnd])), (hw, .inl (cI, 160, .inl (upd (upd (upd M (b + 1) (hh (M (b + 14)) (nI 0))) (b + 2) (hh (M (b + 15)) (nI 1))) (b + 3) (hh (M (b + 16)) (nI 2))))), (hd, .inl (cI, 6, .inl dg)), (hen, .inl (cI, 6, .inl ed)), (hnd, .inl (cI, 16, .inl nd))] H := hP
        have hD : va_D A [(hm, .inr (3, [.int sc, .ref hw, .int (nI cn), .int (nI fu), .int lf, .int (bI dd), .int dn, .int rn, .int (bI tr), .int (nI lg), .ref he, .int me, .ref hd, .ref hen, .ref hnd])), (hw, .inl (cI, 160, .inl (upd (upd (upd M (b + 1) (hh (M (b + 14)) (nI 0))) (b + 2) (hh (M (b + 15)) (nI 1))) (b + 3) (hh (M (b + 16)) (nI 2))))), (hd, .inl (cI, 6, .inl dg)), (hen, .inl (cI, 6, .inl ed)), (hnd, .inl (cI, 16, .inl nd))] := hD
        refine lv_iinc (k := 0) (v := (nI 3)) (lv' := [(3, .int (nI 3)), (0, .ref hm), (1, .int (nI b)), (2, .int (nI q))]) hx hb d_Mo_seal_32 hl rfl (by decide) (by decide) rfl (fun ls hl => ?_)
        refine lv_goto (tgt := 2) hx hb d_Mo_seal_35 (by decide) ?_
        refine lv_iload_n hx hb d_Mo_seal_2 rfl (lv_at hl 0 rfl) ?_
        refine lv_iconst (v := (nI 3)) hx hb d_Mo_seal_3 (by decide) ?_
        refine nb_ge (tgt := 38) hx hb d_Mo_seal_4 (by decide) (by decide) (by decide) (fun h_4 => ?_) (fun h_4 => ?_)
        · obtain ⟨M1, eM1⟩ : ∃ z : Nat → Int32, z = sg3 b M := ⟨_, rfl⟩
          have hP : va_P (dC, dI) classes [(hm, .inr (3, [.int sc, .ref hw, .int (nI cn), .int (nI fu), .int lf, .int (bI dd), .int dn, .int rn, .int (bI tr), .int (nI lg), .ref he, .int me, .ref hd, .ref hen, .ref hnd])), (hw, .inl (cI, 160, .inl M1)), (hd, .inl (cI, 6, .inl dg)), (hen, .inl (cI, 6, .inl ed)), (hnd, .inl (cI, 16, .inl nd))] H := by rw [eM1]; exact hP
          have hD : va_D A [(hm, .inr (3, [.int sc, .ref hw, .int (nI cn), .int (nI fu), .int lf, .int (bI dd), .int dn, .int rn, .int (bI tr), .int (nI lg), .ref he, .int me, .ref hd, .ref hen, .ref hnd])), (hw, .inl (cI, 160, .inl M1)), (hd, .inl (cI, 6, .inl dg)), (hen, .inl (cI, 6, .inl ed)), (hnd, .inl (cI, 16, .inl nd))] := by rw [eM1]; exact hD
          refine lv_aload_n hx hb d_Mo_seal_38 rfl (lv_at hl 1 rfl) ?_
          refine lv_iload_n hx hb d_Mo_seal_39 rfl (lv_at hl 2 rfl) ?_
          have hPc := hP.sub (ws' := [(hm, .inr (3, [.int sc, .ref hw, .int (nI cn), .int (nI fu), .int lf, .int (bI dd), .int dn, .int rn, .int (bI tr), .int (nI lg), .ref he, .int me, .ref hd, .ref hen, .ref hnd])), (hw, .inl (cI, 160, .inl M1)), (hd, .inl (cI, 6, .inl dg))]) [0, 1, 2] rfl
          have hDc := hD.sub (ws' := [(hm, .inr (3, [.int sc, .ref hw, .int (nI cn), .int (nI fu), .int lf, .int (bI dd), .int dn, .int rn, .int (bI tr), .int (nI lg), .ref he, .int me, .ref hd, .ref hen, .ref hnd])), (hw, .inl (cI, 160, .inl M1)), (hd, .inl (cI, 6, .inl dg))]) [0, 1, 2] (by decide) rfl
          have hFc := va_free (wc := [(hm, .inr (3, [.int sc, .ref hw, .int (nI cn), .int (nI fu), .int lf, .int (bI dd), .int dn, .int rn, .int (bI tr), .int (nI lg), .ref he, .int me, .ref hd, .ref hen, .ref hnd])), (hw, .inl (cI, 160, .inl M1)), (hd, .inl (cI, 6, .inl dg))]) hD hS hA [0, 1, 2] rfl
          refine va_callv (va_runV (As := [.int (nI b)]) (rest := []) ⟨hx, hb, hml, hown, hts⟩ (c_Mo_digits l dC dI cI (hm := hm) (b := b) (sc := sc) (hw := hw) (cn := cn) (fu := fu) (lf := lf) (dd := dd) (dn := dn) (rn := rn) (tr := tr) (lg := lg) (he := he) (me := me) (hd := hd) (hen := hen) (hnd := hnd) (M := M1) (dg := dg) (hb160 := (by omega)) (sz := H.size)) ⟨callB_of 1 hts (gd kw_417) rfl rfl rfl (hts _ kw_41) (hts _ kw_414) (by decide +kernel) ⟨Nat.le_of_ble_eq_true rfl, Nat.le_of_ble_eq_true rfl⟩, (hts _ kw_416), (hts _ kw_18)⟩ ⟨fun a U g mk q => by obtain ⟨q0, q1, qP, qK, qD⟩ := q; exact ⟨q0, q1, qP, qK.call, qD⟩, va_recv hK hP (ci := 3) rfl (q0 := 0) rfl, fun U hU hW => ⟨rfl, by rw [hU], by rw [hU]; exact hPc, hKN.warm hW, hDc.weaken (fun _ _ _ _ => trivial)⟩⟩ rfl rfl hl.1 rfl (lv_room (Nat.le_of_ble_eq_true rfl)) d_Mo_seal_40 ⟨Nat.zero_le _, Nat.zero_le _⟩) hS (fun q _ h => hFc q h) hFc (fun u t H1 locs zt zvm zw zB zz zk hS => ?_)
          obtain ⟨dg_5, rfl⟩ : ∃ z, z = u := ⟨_, rfl⟩
          have hu_5 := zw
          obtain ⟨hP1, hD1⟩ := zB
          rw [zt] at hP1
          have hP1 : va_P (dC, dI) classes [(hm, .inr (3, [.int sc, .ref hw, .int (nI cn), .int (nI fu), .int lf, .int (bI dd), .int dn, .int rn, .int (bI tr), .int (nI lg), .ref he, .int me, .ref hd, .ref hen, .ref hnd])), (hw, .inl (cI, 160, .inl M1)), (hd, .inl (cI, 6, .inl dg_5))] H1 := hP1
          obtain ⟨hP, hD⟩ := va_join (wc := [(hm, .inr (3, [.int sc, .ref hw, .int (nI cn), .int (nI fu), .int lf, .int (bI dd), .int dn, .int rn, .int (bI tr), .int (nI lg), .ref he, .int me, .ref hd, .ref hen, .ref hnd])), (hw, .inl (cI, 160, .inl M1)), (hd, .inl (cI, 6, .inl dg))]) (wr := [(hen, .inl (cI, 6, .inl ed)), (hnd, .inl (cI, 16, .inl nd))]) (w1 := [(hm, .inr (3, [.int sc, .ref hw, .int (nI cn), .int (nI fu), .int lf, .int (bI dd), .int dn, .int rn, .int (bI tr), .int (nI lg), .ref he, .int me, .ref hd, .ref hen, .ref hnd])), (hw, .inl (cI, 160, .inl M1)), (hd, .inl (cI, 6, .inl dg_5))]) hP hD [0, 1, 2] [3, 4] rfl rfl (by decide) (by decide) zk hFc hP1 hD1
          generalize H1 = H at hP hS ⊢
          have hP : va_P (dC, dI) classes [(hm, .inr (3, [.int sc, .ref hw, .int (nI cn), .int (nI fu), .int lf, .int (bI dd), .int dn, .int rn, .int (bI tr), .int (nI lg), .ref he, .int me, .ref hd, .ref hen, .ref hnd])), (hw, .inl (cI, 160, .inl M1)), (hd, .inl (cI, 6, .inl dg_5)), (hen, .inl (cI, 6, .inl ed)), (hnd, .inl (cI, 16, .inl nd))] H := hP.sub [2, 3, 4, 0, 1] rfl
          have hD : va_D A [(hm, .inr (3, [.int sc, .ref hw, .int (nI cn), .int (nI fu), .int lf, .int (bI dd), .int dn, .int rn, .int (bI tr), .int (nI lg), .ref he, .int me, .ref hd, .ref hen, .ref hnd])), (hw, .inl (cI, 160, .inl M1)), (hd, .inl (cI, 6, .inl dg_5)), (hen, .inl (cI, 6, .inl ed)), (hnd, .inl (cI, 16, .inl nd))] := hD.sub [2, 3, 4, 0, 1] (by decide) rfl
          clear hPc hDc hFc hP1 hD1 zk zz zvm zt
          have hdg : ∀ i, i < 6 → dg_5 i = nI (dgt (ms4 (fun i => M1 (b + i))) i) := by rw [← hu_5]; exact digs_at _ _
          refine lv_iconst (v := (nI 0)) hx hb d_Mo_seal_43 (by decide) ?_
          refine lv_istore_n (lv' := [(3, .int (nI 0)), (0, .ref hm), (1, .int (nI b)), (2, .int (nI q))]) hx hb d_Mo_seal_44 rfl hl (by decide) rfl (fun ls hl => ?_)
          refine lv_iload_n hx hb d_Mo_seal_45 rfl (lv_at hl 0 rfl) ?_
          refine lv_bipush (v := (nI 6)) hx hb d_Mo_seal_46 (by decide) ?_
          refine nb_ge (tgt := 79) hx hb d_Mo_seal_48 (by decide) (by decide) (by decide) (fun h_6 => ?_) (fun h_6 => ?_)
          · exact absurd h_6 (by decide)
          · refine lv_aload_n hx hb d_Mo_seal_51 rfl (lv_at hl 1 rfl) ?_
            refine va_get (D := (dC, dI)) (ci := 3) (v := .ref hw) (C := R_Mo) (T := F_Mo) (N := 15) hx hb hts in_Mo hown hK hP 0 rfl rfl 1 (by decide) (hts _ kw_440) (fun _ h9 => h9) rfl d_Mo_seal_52 ?_
            refine lv_iload_n hx hb d_Mo_seal_55 rfl (lv_at hl 2 rfl) ?_
            refine lv_iconst (v := (nI 5)) hx hb d_Mo_seal_56 (by decide) ?_
            refine lv_iadd hx hb d_Mo_seal_57 ?_
            refine tp (nI_add _ _) ?_
            refine lv_iload_n hx hb d_Mo_seal_58 rfl (lv_at hl 0 rfl) ?_
            refine lv_iadd hx hb d_Mo_seal_59 ?_
            refine tp (y := (nI (b + 5))) (nI_add _ _) ?_
            refine lv_aload_n hx hb d_Mo_seal_60 rfl (lv_at hl 1 rfl) ?_
            refine lv_iload_n hx hb d_Mo_seal_61 rfl (lv_at hl 3 rfl) ?_
            refine lv_iload_n hx hb d_Mo_seal_62 rfl (lv_at hl 0 rfl) ?_
            refine lv_aload_n hx hb d_Mo_seal_63 rfl (lv_at hl 1 rfl) ?_
            refine va_get (D := (dC, dI)) (ci := 3) (v := .ref hd) (C := R_Mo) (T := F_Mo) (N := 15) hx hb hts in_Mo hown hK hP 0 rfl rfl 12 (by decide) (hts _ kw_451) (fun _ h9 => h9) rfl d_Mo_seal_64 ?_
            refine lv_iload_n hx hb d_Mo_seal_67 rfl (lv_at hl 0 rfl) ?_
            refine ar_ld (k := 0) hx hb hK hP 2 0 rfl rfl (by omega) (by first | decide | omega) d_Mo_seal_68 ?_
            refine tp (hdg 0 (by decide)) ?_
            refine pr_call (va_runV (As := [.int (nI q), .int (nI 0), .int (nI (dgt (ms4 (fun i => M1 (b + i))) 0))]) (rest := [.int (nI (b + 5)), .ref hw]) ⟨hx, hb, hml, hown, hts⟩ (c_Mo_chain l dC dI cI (hm := hm) (q := q) (ch := 0) (pl := dgt (ms4 (fun i => M1 (b + i))) 0) (sc := sc) (hw := hw) (cn := cn) (fu := fu) (lf := lf) (dd := dd) (dn := dn) (rn := rn) (tr := tr) (lg := lg) (he := he) (me := me) (hd := hd) (hen := hen) (hnd := hnd) (hpl := (by first | omega | exact dgt_le _ _))) ⟨callB_of 3 hts (gd kw_421) rfl rfl rfl (hts _ kw_41) (hts _ kw_418) (by decide +kernel) ⟨Nat.le_of_ble_eq_true rfl, Nat.le_of_ble_eq_true rfl⟩, (hts _ kw_420), (hts _ kw_19)⟩ ⟨fun a U g mk q => by obtain ⟨q0, qP, qK⟩ := q; exact ⟨q0, qP, qK.call⟩, va_recv hK hP (ci := 3) rfl (q0 := 0) rfl, fun U hU hW => ⟨rfl, by rw [hU]; exact hP.sub [0] rfl, hKN.warm hW⟩⟩ rfl rfl hl.1 rfl (lv_room (Nat.le_of_ble_eq_true rfl)) d_Mo_seal_69 ⟨Nat.zero_le _, Nat.zero_le _⟩) ?_
            refine ar_st (k := b + 5) hx hb hK hP hD hS 1 0 rfl rfl (by omega) (by first | decide | omega) d_Mo_seal_72 (fun H locs hP hD hS => ?_)
            have hP : va_P (dC, dI) classes [(hm, .inr (3, [.int sc, .ref hw, .int (nI cn), .int (nI fu), .int lf, .int (bI dd), .int dn, .int rn, .int (bI tr), .int (nI lg), .ref he, .int me, .ref hd, .ref hen, .ref hnd])), (hw, .inl (cI, 160, .inl (upd M1 (b + 5) (al 0 (dgt (ms4 (fun i => M1 (b + i))) 0) 0 (cs sc q 0))))), (hd, .inl (cI, 6, .inl dg_5)), (hen, .inl (cI, 6, .inl ed)), (hnd, .inl (cI, 16, .inl nd))] H := hP
            have hD : va_D A [(hm, .inr (3, [.int sc, .ref hw, .int (nI cn), .int (nI fu), .int lf, .int (bI dd), .int dn, .int rn, .int (bI tr), .int (nI lg), .ref he, .int me, .ref hd, .ref hen, .ref hnd])), (hw, .inl (cI, 160, .inl (upd M1 (b + 5) (al 0 (dgt (ms4 (fun i => M1 (b + i))) 0) 0 (cs sc q 0))))), (hd, .inl (cI, 6, .inl dg_5)), (hen, .inl (cI, 6, .inl ed)), (hnd, .inl (cI, 16, .inl nd))] := hD
            refine lv_iinc (k := 0) (v := (nI 1)) (lv' := [(3, .int (nI 1)), (0, .ref hm), (1, .int (nI b)), (2, .int (nI q))]) hx hb d_Mo_seal_73 hl rfl (by decide) (by decide) rfl (fun ls hl => ?_)
            refine lv_goto (tgt := 45) hx hb d_Mo_seal_76 (by decide) ?_
            refine lv_iload_n hx hb d_Mo_seal_45 rfl (lv_at hl 0 rfl) ?_
            refine lv_bipush (v := (nI 6)) hx hb d_Mo_seal_46 (by decide) ?_
            refine nb_ge (tgt := 79) hx hb d_Mo_seal_48 (by decide) (by decide) (by decide) (fun h_7 => ?_) (fun h_7 => ?_)
            · exact absurd h_7 (by decide)
            · refine lv_aload_n hx hb d_Mo_seal_51 rfl (lv_at hl 1 rfl) ?_
              refine va_get (D := (dC, dI)) (ci := 3) (v := .ref hw) (C := R_Mo) (T := F_Mo) (N := 15) hx hb hts in_Mo hown hK hP 0 rfl rfl 1 (by decide) (hts _ kw_440) (fun _ h9 => h9) rfl d_Mo_seal_52 ?_
              refine lv_iload_n hx hb d_Mo_seal_55 rfl (lv_at hl 2 rfl) ?_
              refine lv_iconst (v := (nI 5)) hx hb d_Mo_seal_56 (by decide) ?_
              refine lv_iadd hx hb d_Mo_seal_57 ?_
              refine tp (nI_add _ _) ?_
              refine lv_iload_n hx hb d_Mo_seal_58 rfl (lv_at hl 0 rfl) ?_
              refine lv_iadd hx hb d_Mo_seal_59 ?_
              refine tp (y := (nI (b + 6))) (nI_add _ _) ?_
              refine lv_aload_n hx hb d_Mo_seal_60 rfl (lv_at hl 1 rfl) ?_
              refine lv_iload_n hx hb d_Mo_seal_61 rfl (lv_at hl 3 rfl) ?_
              refine lv_iload_n hx hb d_Mo_seal_62 rfl (lv_at hl 0 rfl) ?_
              refine lv_aload_n hx hb d_Mo_seal_63 rfl (lv_at hl 1 rfl) ?_
              refine va_get (D := (dC, dI)) (ci := 3) (v := .ref hd) (C := R_Mo) (T := F_Mo) (N := 15) hx hb hts in_Mo hown hK hP 0 rfl rfl 12 (by decide) (hts _ kw_451) (fun _ h9 => h9) rfl d_Mo_seal_64 ?_
              refine lv_iload_n hx hb d_Mo_seal_67 rfl (lv_at hl 0 rfl) ?_
              refine ar_ld (k := 1) hx hb hK hP 2 0 rfl rfl (by omega) (by first | decide | omega) d_Mo_seal_68 ?_
              refine tp (hdg 1 (by decide)) ?_
              refine pr_call (va_runV (As := [.int (nI q), .int (nI 1), .int (nI (dgt (ms4 (fun i => M1 (b + i))) 1))]) (rest := [.int (nI (b + 6)), .ref hw]) ⟨hx, hb, hml, hown, hts⟩ (c_Mo_chain l dC dI cI (hm := hm) (q := q) (ch := 1) (pl := dgt (ms4 (fun i => M1 (b + i))) 1) (sc := sc) (hw := hw) (cn := cn) (fu := fu) (lf := lf) (dd := dd) (dn := dn) (rn := rn) (tr := tr) (lg := lg) (he := he) (me := me) (hd := hd) (hen := hen) (hnd := hnd) (hpl := (by first | omega | exact dgt_le _ _))) ⟨callB_of 3 hts (gd kw_421) rfl rfl rfl (hts _ kw_41) (hts _ kw_418) (by decide +kernel) ⟨Nat.le_of_ble_eq_true rfl, Nat.le_of_ble_eq_true rfl⟩, (hts _ kw_420), (hts _ kw_19)⟩ ⟨fun a U g mk q => by obtain ⟨q0, qP, qK⟩ := q; exact ⟨q0, qP, qK.call⟩, va_recv hK hP (ci := 3) rfl (q0 := 0) rfl, fun U hU hW => ⟨rfl, by rw [hU]; exact hP.sub [0] rfl, hKN.warm hW⟩⟩ rfl rfl hl.1 rfl (lv_room (Nat.le_of_ble_eq_true rfl)) d_Mo_seal_69 ⟨Nat.zero_le _, Nat.zero_le _⟩) ?_
              refine ar_st (k := b + 6) hx hb hK hP hD hS 1 0 rfl rfl (by omega) (by first | decide | omega) d_Mo_seal_72 (fun H locs hP hD hS => ?_)
              have hP : va_P (dC, dI) classes [(hm, .inr (3, [.int sc, .ref hw, .int (nI cn), .int (nI fu), .int lf, .int (bI dd), .int dn, .int rn, .int (bI tr), .int (nI lg), .ref he, .int me, .ref hd, .ref hen, .ref hnd])), (hw, .inl (cI, 160, .inl (upd (upd M1 (b + 5) (al 0 (dgt (ms4 (fun i => M1 (b + i))) 0) 0 (cs sc q 0))) (b + 6) (al 1 (dgt (ms4 (fun i => M1 (b + i))) 1) 0 (cs sc q 1))))), (hd, .inl (cI, 6, .inl dg_5)), (hen, .inl (cI, 6, .inl ed)), (hnd, .inl (cI, 16, .inl nd))] H := hP
              have hD : va_D A [(hm, .inr (3, [.int sc, .ref hw, .int (nI cn), .int (nI fu), .int lf, .int (bI dd), .int dn, .int rn, .int (bI tr), .int (nI lg), .ref he, .int me, .ref hd, .ref hen, .ref hnd])), (hw, .inl (cI, 160, .inl (upd (upd M1 (b + 5) (al 0 (dgt (ms4 (fun i => M1 (b + i))) 0) 0 (cs sc q 0))) (b + 6) (al 1 (dgt (ms4 (fun i => M1 (b + i))) 1) 0 (cs sc q 1))))), (hd, .inl (cI, 6, .inl dg_5)), (hen, .inl (cI, 6, .inl ed)), (hnd, .inl (cI, 16, .inl nd))] := hD
              refine lv_iinc (k := 0) (v := (nI 2)) (lv' := [(3, .int (nI 2)), (0, .ref hm), (1, .int (nI b)), (2, .int (nI q))]) hx hb d_Mo_seal_73 hl rfl (by decide) (by decide) rfl (fun ls hl => ?_)
              refine lv_goto (tgt := 45) hx hb d_Mo_seal_76 (by decide) ?_
              refine lv_iload_n hx hb d_Mo_seal_45 rfl (lv_at hl 0 rfl) ?_
              refine lv_bipush (v := (nI 6)) hx hb d_Mo_seal_46 (by decide) ?_
              refine nb_ge (tgt := 79) hx hb d_Mo_seal_48 (by decide) (by decide) (by decide) (fun h_8 => ?_) (fun h_8 => ?_)
              · exact absurd h_8 (by decide)
              · refine lv_aload_n hx hb d_Mo_seal_51 rfl (lv_at hl 1 rfl) ?_
                refine va_get (D := (dC, dI)) (ci := 3) (v := .ref hw) (C := R_Mo) (T := F_Mo) (N := 15) hx hb hts in_Mo hown hK hP 0 rfl rfl 1 (by decide) (hts _ kw_440) (fun _ h9 => h9) rfl d_Mo_seal_52 ?_
                refine lv_iload_n hx hb d_Mo_seal_55 rfl (lv_at hl 2 rfl) ?_
                refine lv_iconst (v := (nI 5)) hx hb d_Mo_seal_56 (by decide) ?_
                refine lv_iadd hx hb d_Mo_seal_57 ?_
                refine tp (nI_add _ _) ?_
                refine lv_iload_n hx hb d_Mo_seal_58 rfl (lv_at hl 0 rfl) ?_
                refine lv_iadd hx hb d_Mo_seal_59 ?_
                refine tp (y := (nI (b + 7))) (nI_add _ _) ?_
                refine lv_aload_n hx hb d_Mo_seal_60 rfl (lv_at hl 1 rfl) ?_
                refine lv_iload_n hx hb d_Mo_seal_61 rfl (lv_at hl 3 rfl) ?_
                refine lv_iload_n hx hb d_Mo_seal_62 rfl (lv_at hl 0 rfl) ?_
                refine lv_aload_n hx hb d_Mo_seal_63 rfl (lv_at hl 1 rfl) ?_
                refine va_get (D := (dC, dI)) (ci := 3) (v := .ref hd) (C := R_Mo) (T := F_Mo) (N := 15) hx hb hts in_Mo hown hK hP 0 rfl rfl 12 (by decide) (hts _ kw_451) (fun _ h9 => h9) rfl d_Mo_seal_64 ?_
                refine lv_iload_n hx hb d_Mo_seal_67 rfl (lv_at hl 0 rfl) ?_
                refine ar_ld (k := 2) hx hb hK hP 2 0 rfl rfl (by omega) (by first | decide | omega) d_Mo_seal_68 ?_
                refine tp (hdg 2 (by decide)) ?_
                refine pr_call (va_runV (As := [.int (nI q), .int (nI 2), .int (nI (dgt (ms4 (fun i => M1 (b + i))) 2))]) (rest := [.int (nI (b + 7)), .ref hw]) ⟨hx, hb, hml, hown, hts⟩ (c_Mo_chain l dC dI cI (hm := hm) (q := q) (ch := 2) (pl := dgt (ms4 (fun i => M1 (b + i))) 2) (sc := sc) (hw := hw) (cn := cn) (fu := fu) (lf := lf) (dd := dd) (dn := dn) (rn := rn) (tr := tr) (lg := lg) (he := he) (me := me) (hd := hd) (hen := hen) (hnd := hnd) (hpl := (by first | omega | exact dgt_le _ _))) ⟨callB_of 3 hts (gd kw_421) rfl rfl rfl (hts _ kw_41) (hts _ kw_418) (by decide +kernel) ⟨Nat.le_of_ble_eq_true rfl, Nat.le_of_ble_eq_true rfl⟩, (hts _ kw_420), (hts _ kw_19)⟩ ⟨fun a U g mk q => by obtain ⟨q0, qP, qK⟩ := q; exact ⟨q0, qP, qK.call⟩, va_recv hK hP (ci := 3) rfl (q0 := 0) rfl, fun U hU hW => ⟨rfl, by rw [hU]; exact hP.sub [0] rfl, hKN.warm hW⟩⟩ rfl rfl hl.1 rfl (lv_room (Nat.le_of_ble_eq_true rfl)) d_Mo_seal_69 ⟨Nat.zero_le _, Nat.zero_le _⟩) ?_
                refine ar_st (k := b + 7) hx hb hK hP hD hS 1 0 rfl rfl (by omega) (by first | decide | omega) d_Mo_seal_72 (fun H locs hP hD hS => ?_)
                have hP : va_P (dC, dI) classes [(hm, .inr (3, [.int sc, .ref hw, .int (nI cn), .int (nI fu), .int lf, .int (bI dd), .int dn, .int rn, .int (bI tr), .int (nI lg), .ref he, .int me, .ref hd, .ref hen, .ref hnd])), (hw, .inl (cI, 160, .inl (upd (upd (upd M1 (b + 5) (al 0 (dgt (ms4 (fun i => M1 (b + i))) 0) 0 (cs sc q 0))) (b + 6) (al 1 (dgt (ms4 (fun i => M1 (b + i))) 1) 0 (cs sc q 1))) (b + 7) (al 2 (dgt (ms4 (fun i => M1 (b + i))) 2) 0 (cs sc q 2))))), (hd, .inl (cI, 6, .inl dg_5)), (hen, .inl (cI, 6, .inl ed)), (hnd, .inl (cI, 16, .inl nd))] H := hP
                have hD : va_D A [(hm, .inr (3, [.int sc, .ref hw, .int (nI cn), .int (nI fu), .int lf, .int (bI dd), .int dn, .int rn, .int (bI tr), .int (nI lg), .ref he, .int me, .ref hd, .ref hen, .ref hnd])), (hw, .inl (cI, 160, .inl (upd (upd (upd M1 (b + 5) (al 0 (dgt (ms4 (fun i => M1 (b + i))) 0) 0 (cs sc q 0))) (b + 6) (al 1 (dgt (ms4 (fun i => M1 (b + i))) 1) 0 (cs sc q 1))) (b + 7) (al 2 (dgt (ms4 (fun i => M1 (b + i))) 2) 0 (cs sc q 2))))), (hd, .inl (cI, 6, .inl dg_5)), (hen, .inl (cI, 6, .inl ed)), (hnd, .inl (cI, 16, .inl nd))] := hD
                refine lv_iinc (k := 0) (v := (nI 3)) (lv' := [(3, .int (nI 3)), (0, .ref hm), (1, .int (nI b)), (2, .int (nI q))]) hx hb d_Mo_seal_73 hl rfl (by decide) (by decide) rfl (fun ls hl => ?_)
                refine lv_goto (tgt := 45) hx hb d_Mo_seal_76 (by decide) ?_
                refine lv_iload_n hx hb d_Mo_seal_45 rfl (lv_at hl 0 rfl) ?_
                refine lv_bipush (v := (nI 6)) hx hb d_Mo_seal_46 (by decide) ?_
                refine nb_ge (tgt := 79) hx hb d_Mo_seal_48 (by decide) (by decide) (by decide) (fun h_9 => ?_) (fun h_9 => ?_)
                · exact absurd h_9 (by decide)
                · refine lv_aload_n hx hb d_Mo_seal_51 rfl (lv_at hl 1 rfl) ?_
                  refine va_get (D := (dC, dI)) (ci := 3) (v := .ref hw) (C := R_Mo) (T := F_Mo) (N := 15) hx hb hts in_Mo hown hK hP 0 rfl rfl 1 (by decide) (hts _ kw_440) (fun _ h9 => h9) rfl d_Mo_seal_52 ?_
                  refine lv_iload_n hx hb d_Mo_seal_55 rfl (lv_at hl 2 rfl) ?_
                  refine lv_iconst (v := (nI 5)) hx hb d_Mo_seal_56 (by decide) ?_
                  refine lv_iadd hx hb d_Mo_seal_57 ?_
                  refine tp (nI_add _ _) ?_
                  refine lv_iload_n hx hb d_Mo_seal_58 rfl (lv_at hl 0 rfl) ?_
                  refine lv_iadd hx hb d_Mo_seal_59 ?_
                  refine tp (y := (nI (b + 8))) (nI_add _ _) ?_
                  refine lv_aload_n hx hb d_Mo_seal_60 rfl (lv_at hl 1 rfl) ?_
                  refine lv_iload_n hx hb d_Mo_seal_61 rfl (lv_at hl 3 rfl) ?_
                  refine lv_iload_n hx hb d_Mo_seal_62 rfl (lv_at hl 0 rfl) ?_
                  refine lv_aload_n hx hb d_Mo_seal_63 rfl (lv_at hl 1 rfl) ?_
                  refine va_get (D := (dC, dI)) (ci := 3) (v := .ref hd) (C := R_Mo) (T := F_Mo) (N := 15) hx hb hts in_Mo hown hK hP 0 rfl rfl 12 (by decide) (hts _ kw_451) (fun _ h9 => h9) rfl d_Mo_seal_64 ?_
                  refine lv_iload_n hx hb d_Mo_seal_67 rfl (lv_at hl 0 rfl) ?_
                  refine ar_ld (k := 3) hx hb hK hP 2 0 rfl rfl (by omega) (by first | decide | omega) d_Mo_seal_68 ?_
                  refine tp (hdg 3 (by decide)) ?_
                  refine pr_call (va_runV (As := [.int (nI q), .int (nI 3), .int (nI (dgt (ms4 (fun i => M1 (b + i))) 3))]) (rest := [.int (nI (b + 8)), .ref hw]) ⟨hx, hb, hml, hown, hts⟩ (c_Mo_chain l dC dI cI (hm := hm) (q := q) (ch := 3) (pl := dgt (ms4 (fun i => M1 (b + i))) 3) (sc := sc) (hw := hw) (cn := cn) (fu := fu) (lf := lf) (dd := dd) (dn := dn) (rn := rn) (tr := tr) (lg := lg) (he := he) (me := me) (hd := hd) (hen := hen) (hnd := hnd) (hpl := (by first | omega | exact dgt_le _ _))) ⟨callB_of 3 hts (gd kw_421) rfl rfl rfl (hts _ kw_41) (hts _ kw_418) (by decide +kernel) ⟨Nat.le_of_ble_eq_true rfl, Nat.le_of_ble_eq_true rfl⟩, (hts _ kw_420), (hts _ kw_19)⟩ ⟨fun a U g mk q => by obtain ⟨q0, qP, qK⟩ := q; exact ⟨q0, qP, qK.call⟩, va_recv hK hP (ci := 3) rfl (q0 := 0) rfl, fun U hU hW => ⟨rfl, by rw [hU]; exact hP.sub [0] rfl, hKN.warm hW⟩⟩ rfl rfl hl.1 rfl (lv_room (Nat.le_of_ble_eq_true rfl)) d_Mo_seal_69 ⟨Nat.zero_le _, Nat.zero_le _⟩) ?_
                  refine ar_st (k := b + 8) hx hb hK hP hD hS 1 0 rfl rfl (by omega) (by first | decide | omega) d_Mo_seal_72 (fun H locs hP hD hS => ?_)
                  have hP : va_P (dC, dI) classes [(hm, .inr (3, [.int sc, .ref hw, .int (nI cn), .int (nI fu), .int lf, .int (bI dd), .int dn, .int rn, .int (bI tr), .int (nI lg), .ref he, .int me, .ref hd, .ref hen, .ref hnd])), (hw, .inl (cI, 160, .inl (upd (upd (upd (upd M1 (b + 5) (al 0 (dgt (ms4 (fun i => M1 (b + i))) 0) 0 (cs sc q 0))) (b + 6) (al 1 (dgt (ms4 (fun i => M1 (b + i))) 1) 0 (cs sc q 1))) (b + 7) (al 2 (dgt (ms4 (fun i => M1 (b + i))) 2) 0 (cs sc q 2))) (b + 8) (al 3 (dgt (ms4 (fun i => M1 (b + i))) 3) 0 (cs sc q 3))))), (hd, .inl (cI, 6, .inl dg_5)), (hen, .inl (cI, 6, .inl ed)), (hnd, .inl (cI, 16, .inl nd))] H := hP
                  have hD : va_D A [(hm, .inr (3, [.int sc, .ref hw, .int (nI cn), .int (nI fu), .int lf, .int (bI dd), .int dn, .int rn, .int (bI tr), .int (nI lg), .ref he, .int me, .ref hd, .ref hen, .ref hnd])), (hw, .inl (cI, 160, .inl (upd (upd (upd (upd M1 (b + 5) (al 0 (dgt (ms4 (fun i => M1 (b + i))) 0) 0 (cs sc q 0))) (b + 6) (al 1 (dgt (ms4 (fun i => M1 (b + i))) 1) 0 (cs sc q 1))) (b + 7) (al 2 (dgt (ms4 (fun i => M1 (b + i))) 2) 0 (cs sc q 2))) (b + 8) (al 3 (dgt (ms4 (fun i => M1 (b + i))) 3) 0 (cs sc q 3))))), (hd, .inl (cI, 6, .inl dg_5)), (hen, .inl (cI, 6, .inl ed)), (hnd, .inl (cI, 16, .inl nd))] := hD
                  refine lv_iinc (k := 0) (v := (nI 4)) (lv' := [(3, .int (nI 4)), (0, .ref hm), (1, .int (nI b)), (2, .int (nI q))]) hx hb d_Mo_seal_73 hl rfl (by decide) (by decide) rfl (fun ls hl => ?_)
                  refine lv_goto (tgt := 45) hx hb d_Mo_seal_76 (by decide) ?_
                  refine lv_iload_n hx hb d_Mo_seal_45 rfl (lv_at hl 0 rfl) ?_
                  refine lv_bipush (v := (nI 6)) hx hb d_Mo_seal_46 (by decide) ?_
                  refine nb_ge (tgt := 79) hx hb d_Mo_seal_48 (by decide) (by decide) (by decide) (fun h_10 => ?_) (fun h_10 => ?_)
                  · exact absurd h_10 (by decide)
                  · refine lv_aload_n hx hb d_Mo_seal_51 rfl (lv_at hl 1 rfl) ?_
                    refine va_get (D := (dC, dI)) (ci := 3) (v := .ref hw) (C := R_Mo) (T := F_Mo) (N := 15) hx hb hts in_Mo hown hK hP 0 rfl rfl 1 (by decide) (hts _ kw_440) (fun _ h9 => h9) rfl d_Mo_seal_52 ?_
                    refine lv_iload_n hx hb d_Mo_seal_55 rfl (lv_at hl 2 rfl) ?_
                    refine lv_iconst (v := (nI 5)) hx hb d_Mo_seal_56 (by decide) ?_
                    refine lv_iadd hx hb d_Mo_seal_57 ?_
                    refine tp (nI_add _ _) ?_
                    refine lv_iload_n hx hb d_Mo_seal_58 rfl (lv_at hl 0 rfl) ?_
                    refine lv_iadd hx hb d_Mo_seal_59 ?_
                    refine tp (y := (nI (b + 9))) (nI_add _ _) ?_
                    refine lv_aload_n hx hb d_Mo_seal_60 rfl (lv_at hl 1 rfl) ?_
                    refine lv_iload_n hx hb d_Mo_seal_61 rfl (lv_at hl 3 rfl) ?_
                    refine lv_iload_n hx hb d_Mo_seal_62 rfl (lv_at hl 0 rfl) ?_
                    refine lv_aload_n hx hb d_Mo_seal_63 rfl (lv_at hl 1 rfl) ?_
                    refine va_get (D := (dC, dI)) (ci := 3) (v := .ref hd) (C := R_Mo) (T := F_Mo) (N := 15) hx hb hts in_Mo hown hK hP 0 rfl rfl 12 (by decide) (hts _ kw_451) (fun _ h9 => h9) rfl d_Mo_seal_64 ?_
                    refine lv_iload_n hx hb d_Mo_seal_67 rfl (lv_at hl 0 rfl) ?_
                    refine ar_ld (k := 4) hx hb hK hP 2 0 rfl rfl (by omega) (by first | decide | omega) d_Mo_seal_68 ?_
                    refine tp (hdg 4 (by decide)) ?_
                    refine pr_call (va_runV (As := [.int (nI q), .int (nI 4), .int (nI (dgt (ms4 (fun i => M1 (b + i))) 4))]) (rest := [.int (nI (b + 9)), .ref hw]) ⟨hx, hb, hml, hown, hts⟩ (c_Mo_chain l dC dI cI (hm := hm) (q := q) (ch := 4) (pl := dgt (ms4 (fun i => M1 (b + i))) 4) (sc := sc) (hw := hw) (cn := cn) (fu := fu) (lf := lf) (dd := dd) (dn := dn) (rn := rn) (tr := tr) (lg := lg) (he := he) (me := me) (hd := hd) (hen := hen) (hnd := hnd) (hpl := (by first | omega | exact dgt_le _ _))) ⟨callB_of 3 hts (gd kw_421) rfl rfl rfl (hts _ kw_41) (hts _ kw_418) (by decide +kernel) ⟨Nat.le_of_ble_eq_true rfl, Nat.le_of_ble_eq_true rfl⟩, (hts _ kw_420), (hts _ kw_19)⟩ ⟨fun a U g mk q => by obtain ⟨q0, qP, qK⟩ := q; exact ⟨q0, qP, qK.call⟩, va_recv hK hP (ci := 3) rfl (q0 := 0) rfl, fun U hU hW => ⟨rfl, by rw [hU]; exact hP.sub [0] rfl, hKN.warm hW⟩⟩ rfl rfl hl.1 rfl (lv_room (Nat.le_of_ble_eq_true rfl)) d_Mo_seal_69 ⟨Nat.zero_le _, Nat.zero_le _⟩) ?_
                    refine ar_st (k := b + 9) hx hb hK hP hD hS 1 0 rfl rfl (by omega) (by first | decide | omega) d_Mo_seal_72 (fun H locs hP hD hS => ?_)
                    have hP : va_P (dC, dI) classes [(hm, .inr (3, [.int sc, .ref hw, .int (nI cn), .int (nI fu), .int lf, .int (bI dd), .int dn, .int rn, .int (bI tr), .int (nI lg), .ref he, .int me, .ref hd, .ref hen, .ref hnd])), (hw, .inl (cI, 160, .inl (upd (upd (upd (upd (upd M1 (b + 5) (al 0 (dgt (ms4 (fun i => M1 (b + i))) 0) 0 (cs sc q 0))) (b + 6) (al 1 (dgt (ms4 (fun i => M1 (b + i))) 1) 0 (cs sc q 1))) (b + 7) (al 2 (dgt (ms4 (fun i => M1 (b + i))) 2) 0 (cs sc q 2))) (b + 8) (al 3 (dgt (ms4 (fun i => M1 (b + i))) 3) 0 (cs sc q 3))) (b + 9) (al 4 (dgt (ms4 (fun i => M1 (b + i))) 4) 0 (cs sc q 4))))), (hd, .inl (cI, 6, .inl dg_5)), (hen, .inl (cI, 6, .inl ed)), (hnd, .inl (cI, 16, .inl nd))] H := hP
                    have hD : va_D A [(hm, .inr (3, [.int sc, .ref hw, .int (nI cn), .int (nI fu), .int lf, .int (bI dd), .int dn, .int rn, .int (bI tr), .int (nI lg), .ref he, .int me, .ref hd, .ref hen, .ref hnd])), (hw, .inl (cI, 160, .inl (upd (upd (upd (upd (upd M1 (b + 5) (al 0 (dgt (ms4 (fun i => M1 (b + i))) 0) 0 (cs sc q 0))) (b + 6) (al 1 (dgt (ms4 (fun i => M1 (b + i))) 1) 0 (cs sc q 1))) (b + 7) (al 2 (dgt (ms4 (fun i => M1 (b + i))) 2) 0 (cs sc q 2))) (b + 8) (al 3 (dgt (ms4 (fun i => M1 (b + i))) 3) 0 (cs sc q 3))) (b + 9) (al 4 (dgt (ms4 (fun i => M1 (b + i))) 4) 0 (cs sc q 4))))), (hd, .inl (cI, 6, .inl dg_5)), (hen, .inl (cI, 6, .inl ed)), (hnd, .inl (cI, 16, .inl nd))] := hD
                    refine lv_iinc (k := 0) (v := (nI 5)) (lv' := [(3, .int (nI 5)), (0, .ref hm), (1, .int (nI b)), (2, .int (nI q))]) hx hb d_Mo_seal_73 hl rfl (by decide) (by decide) rfl (fun ls hl => ?_)
                    refine lv_goto (tgt := 45) hx hb d_Mo_seal_76 (by decide) ?_
                    refine lv_iload_n hx hb d_Mo_seal_45 rfl (lv_at hl 0 rfl) ?_
                    refine lv_bipush (v := (nI 6)) hx hb d_Mo_seal_46 (by decide) ?_
                    refine nb_ge (tgt := 79) hx hb d_Mo_seal_48 (by decide) (by decide) (by decide) (fun h_11 => ?_) (fun h_11 => ?_)
                    · exact absurd h_11 (by decide)
                    · refine lv_aload_n hx hb d_Mo_seal_51 rfl (lv_at hl 1 rfl) ?_
                      refine va_get (D := (dC, dI)) (ci := 3) (v := .ref hw) (C := R_Mo) (T := F_Mo) (N := 15) hx hb hts in_Mo hown hK hP 0 rfl rfl 1 (by decide) (hts _ kw_440) (fun _ h9 => h9) rfl d_Mo_seal_52 ?_
                      refine lv_iload_n hx hb d_Mo_seal_55 rfl (lv_at hl 2 rfl) ?_
                      refine lv_iconst (v := (nI 5)) hx hb d_Mo_seal_56 (by decide) ?_
                      refine lv_iadd hx hb d_Mo_seal_57 ?_
                      refine tp (nI_add _ _) ?_
                      refine lv_iload_n hx hb d_Mo_seal_58 rfl (lv_at hl 0 rfl) ?_
                      refine lv_iadd hx hb d_Mo_seal_59 ?_
                      refine tp (y := (nI (b + 10))) (nI_add _ _) ?_
                      refine lv_aload_n hx hb d_Mo_seal_60 rfl (lv_at hl 1 rfl) ?_
                      refine lv_iload_n hx hb d_Mo_seal_61 rfl (lv_at hl 3 rfl) ?_
                      refine lv_iload_n hx hb d_Mo_seal_62 rfl (lv_at hl 0 rfl) ?_
                      refine lv_aload_n hx hb d_Mo_seal_63 rfl (lv_at hl 1 rfl) ?_
                      refine va_get (D := (dC, dI)) (ci := 3) (v := .ref hd) (C := R_Mo) (T := F_Mo) (N := 15) hx hb hts in_Mo hown hK hP 0 rfl rfl 12 (by decide) (hts _ kw_451) (fun _ h9 => h9) rfl d_Mo_seal_64 ?_
                      refine lv_iload_n hx hb d_Mo_seal_67 rfl (lv_at hl 0 rfl) ?_
                      refine ar_ld (k := 5) hx hb hK hP 2 0 rfl rfl (by omega) (by first | decide | omega) d_Mo_seal_68 ?_
                      refine tp (hdg 5 (by decide)) ?_
                      refine pr_call (va_runV (As := [.int (nI q), .int (nI 5), .int (nI (dgt (ms4 (fun i => M1 (b + i))) 5))]) (rest := [.int (nI (b + 10)), .ref hw]) ⟨hx, hb, hml, hown, hts⟩ (c_Mo_chain l dC dI cI (hm := hm) (q := q) (ch := 5) (pl := dgt (ms4 (fun i => M1 (b + i))) 5) (sc := sc) (hw := hw) (cn := cn) (fu := fu) (lf := lf) (dd := dd) (dn := dn) (rn := rn) (tr := tr) (lg := lg) (he := he) (me := me) (hd := hd) (hen := hen) (hnd := hnd) (hpl := (by first | omega | exact dgt_le _ _))) ⟨callB_of 3 hts (gd kw_421) rfl rfl rfl (hts _ kw_41) (hts _ kw_418) (by decide +kernel) ⟨Nat.le_of_ble_eq_true rfl, Nat.le_of_ble_eq_true rfl⟩, (hts _ kw_420), (hts _ kw_19)⟩ ⟨fun a U g mk q => by obtain ⟨q0, qP, qK⟩ := q; exact ⟨q0, qP, qK.call⟩, va_recv hK hP (ci := 3) rfl (q0 := 0) rfl, fun U hU hW => ⟨rfl, by rw [hU]; exact hP.sub [0] rfl, hKN.warm hW⟩⟩ rfl rfl hl.1 rfl (lv_room (Nat.le_of_ble_eq_true rfl)) d_Mo_seal_69 ⟨Nat.zero_le _, Nat.zero_le _⟩) ?_
                      refine ar_st (k := b + 10) hx hb hK hP hD hS 1 0 rfl rfl (by omega) (by first | decide | omega) d_Mo_seal_72 (fun H locs hP hD hS => ?_)
                      have hP : va_P (dC, dI) classes [(hm, .inr (3, [.int sc, .ref hw, .int (nI cn), .int (nI fu), .int lf, .int (bI dd), .int dn, .int rn, .int (bI tr), .int (nI lg), .ref he, .int me, .ref hd, .ref hen, .ref hnd])), (hw, .inl (cI, 160, .inl (upd (upd (upd (upd (upd (upd M1 (b + 5) (al 0 (dgt (ms4 (fun i => M1 (b + i))) 0) 0 (cs sc q 0))) (b + 6) (al 1 (dgt (ms4 (fun i => M1 (b + i))) 1) 0 (cs sc q 1))) (b + 7) (al 2 (dgt (ms4 (fun i => M1 (b + i))) 2) 0 (cs sc q 2))) (b + 8) (al 3 (dgt (ms4 (fun i => M1 (b + i))) 3) 0 (cs sc q 3))) (b + 9) (al 4 (dgt (ms4 (fun i => M1 (b + i))) 4) 0 (cs sc q 4))) (b + 10) (al 5 (dgt (ms4 (fun i => M1 (b + i))) 5) 0 (cs sc q 5))))), (hd, .inl (cI, 6, .inl dg_5)), (hen, .inl (cI, 6, .inl ed)), (hnd, .inl (cI, 16, .inl nd))] H := hP
                      have hD : va_D A [(hm, .inr (3, [.int sc, .ref hw, .int (nI cn), .int (nI fu), .int lf, .int (bI dd), .int dn, .int rn, .int (bI tr), .int (nI lg), .ref he, .int me, .ref hd, .ref hen, .ref hnd])), (hw, .inl (cI, 160, .inl (upd (upd (upd (upd (upd (upd M1 (b + 5) (al 0 (dgt (ms4 (fun i => M1 (b + i))) 0) 0 (cs sc q 0))) (b + 6) (al 1 (dgt (ms4 (fun i => M1 (b + i))) 1) 0 (cs sc q 1))) (b + 7) (al 2 (dgt (ms4 (fun i => M1 (b + i))) 2) 0 (cs sc q 2))) (b + 8) (al 3 (dgt (ms4 (fun i => M1 (b + i))) 3) 0 (cs sc q 3))) (b + 9) (al 4 (dgt (ms4 (fun i => M1 (b + i))) 4) 0 (cs sc q 4))) (b + 10) (al 5 (dgt (ms4 (fun i => M1 (b + i))) 5) 0 (cs sc q 5))))), (hd, .inl (cI, 6, .inl dg_5)), (hen, .inl (cI, 6, .inl ed)), (hnd, .inl (cI, 16, .inl nd))] := hD
                      refine lv_iinc (k := 0) (v := (nI 6)) (lv' := [(3, .int (nI 6)), (0, .ref hm), (1, .int (nI b)), (2, .int (nI q))]) hx hb d_Mo_seal_73 hl rfl (by decide) (by decide) rfl (fun ls hl => ?_)
                      refine lv_goto (tgt := 45) hx hb d_Mo_seal_76 (by decide) ?_
                      refine lv_iload_n hx hb d_Mo_seal_45 rfl (lv_at hl 0 rfl) ?_
                      refine lv_bipush (v := (nI 6)) hx hb d_Mo_seal_46 (by decide) ?_
                      refine nb_ge (tgt := 79) hx hb d_Mo_seal_48 (by decide) (by decide) (by decide) (fun h_12 => ?_) (fun h_12 => ?_)
                      · obtain ⟨M2, eM2⟩ : ∃ z : Nat → Int32, z = putC sc q b (ms4 (fun i => M1 (b + i))) M1 := ⟨_, rfl⟩
                        have hP : va_P (dC, dI) classes [(hm, .inr (3, [.int sc, .ref hw, .int (nI cn), .int (nI fu), .int lf, .int (bI dd), .int dn, .int rn, .int (bI tr), .int (nI lg), .ref he, .int me, .ref hd, .ref hen, .ref hnd])), (hw, .inl (cI, 160, .inl M2)), (hd, .inl (cI, 6, .inl dg_5)), (hen, .inl (cI, 6, .inl ed)), (hnd, .inl (cI, 16, .inl nd))] H := by rw [eM2]; exact hP
                        have hD : va_D A [(hm, .inr (3, [.int sc, .ref hw, .int (nI cn), .int (nI fu), .int lf, .int (bI dd), .int dn, .int rn, .int (bI tr), .int (nI lg), .ref he, .int me, .ref hd, .ref hen, .ref hnd])), (hw, .inl (cI, 160, .inl M2)), (hd, .inl (cI, 6, .inl dg_5)), (hen, .inl (cI, 6, .inl ed)), (hnd, .inl (cI, 16, .inl nd))] := by rw [eM2]; exact hD
                        refine lv_aload_n hx hb d_Mo_seal_79 rfl (lv_at hl 1 rfl) ?_
                        have hPc := hP.sub (ws' := [(hm, .inr (3, [.int sc, .ref hw, .int (nI cn), .int (nI fu), .int lf, .int (bI dd), .int dn, .int rn, .int (bI tr), .int (nI lg), .ref he, .int me, .ref hd, .ref hen, .ref hnd])), (hen, .inl (cI, 6, .inl ed)), (hnd, .inl (cI, 16, .inl nd))]) [0, 3, 4] rfl
                        have hDc := hD.sub (ws' := [(hm, .inr (3, [.int sc, .ref hw, .int (nI cn), .int (nI fu), .int lf, .int (bI dd), .int dn, .int rn, .int (bI tr), .int (nI lg), .ref he, .int me, .ref hd, .ref hen, .ref hnd])), (hen, .inl (cI, 6, .inl ed)), (hnd, .inl (cI, 16, .inl nd))]) [0, 3, 4] (by decide) rfl
                        have hFc := va_free (wc := [(hm, .inr (3, [.int sc, .ref hw, .int (nI cn), .int (nI fu), .int lf, .int (bI dd), .int dn, .int rn, .int (bI tr), .int (nI lg), .ref he, .int me, .ref hd, .ref hen, .ref hnd])), (hen, .inl (cI, 6, .inl ed)), (hnd, .inl (cI, 16, .inl nd))]) hD hS hA [0, 3, 4] rfl
                        refine va_callv (va_runV (As := []) (rest := []) ⟨hx, hb, hml, hown, hts⟩ (c_Mo_tree l dC dI cI (hm := hm) (sc := sc) (hw := hw) (cn := cn) (fu := fu) (lf := lf) (dd := dd) (dn := dn) (rn := rn) (tr := tr) (lg := lg) (he := he) (me := me) (hd := hd) (hen := hen) (hnd := hnd) (ed := ed) (nd := nd)  (sz := H.size)) ⟨callB_of 0 hts (gd kw_428) rfl rfl rfl (hts _ kw_41) (hts _ kw_425) (by decide +kernel) ⟨Nat.le_of_ble_eq_true rfl, Nat.le_of_ble_eq_true rfl⟩, (hts _ kw_427), (hts _ kw_20)⟩ ⟨fun a U g mk q => by obtain ⟨q0, q1, qP, qK, qD⟩ := q; exact ⟨q0, q1, qP, qK.call, qD⟩, va_recv hK hP (ci := 3) rfl (q0 := 0) rfl, fun U hU hW => ⟨rfl, by rw [hU], by rw [hU]; exact hPc, hKN.warm hW, hDc.weaken (fun _ _ _ _ => trivial)⟩⟩ rfl rfl hl.1 rfl (lv_room (Nat.le_of_ble_eq_true rfl)) d_Mo_seal_80 ⟨Nat.zero_le _, Nat.zero_le _⟩) hS (fun q _ h => hFc q h) hFc (fun u t H1 locs zt zvm zw zB zz zk hS => ?_)
                        obtain ⟨ed_13, nd_13⟩ := u
                        have hu_13 := zw
                        obtain ⟨hP1, hD1⟩ := zB
                        rw [zt] at hP1
                        have hP1 : va_P (dC, dI) classes [(hm, .inr (3, [.int sc, .ref hw, .int (nI cn), .int (nI fu), .int lf, .int (bI dd), .int dn, .int rn, .int (bI tr), .int (nI lg), .ref he, .int me, .ref hd, .ref hen, .ref hnd])), (hen, .inl (cI, 6, .inl ed_13)), (hnd, .inl (cI, 16, .inl nd_13))] H1 := hP1
                        obtain ⟨hP, hD⟩ := va_join (wc := [(hm, .inr (3, [.int sc, .ref hw, .int (nI cn), .int (nI fu), .int lf, .int (bI dd), .int dn, .int rn, .int (bI tr), .int (nI lg), .ref he, .int me, .ref hd, .ref hen, .ref hnd])), (hen, .inl (cI, 6, .inl ed)), (hnd, .inl (cI, 16, .inl nd))]) (wr := [(hw, .inl (cI, 160, .inl M2)), (hd, .inl (cI, 6, .inl dg_5))]) (w1 := [(hm, .inr (3, [.int sc, .ref hw, .int (nI cn), .int (nI fu), .int lf, .int (bI dd), .int dn, .int rn, .int (bI tr), .int (nI lg), .ref he, .int me, .ref hd, .ref hen, .ref hnd])), (hen, .inl (cI, 6, .inl ed_13)), (hnd, .inl (cI, 16, .inl nd_13))]) hP hD [0, 3, 4] [1, 2] rfl rfl (by decide) (by decide) zk hFc hP1 hD1
                        generalize H1 = H at hP hS ⊢
                        have hP : va_P (dC, dI) classes [(hm, .inr (3, [.int sc, .ref hw, .int (nI cn), .int (nI fu), .int lf, .int (bI dd), .int dn, .int rn, .int (bI tr), .int (nI lg), .ref he, .int me, .ref hd, .ref hen, .ref hnd])), (hw, .inl (cI, 160, .inl M2)), (hd, .inl (cI, 6, .inl dg_5)), (hen, .inl (cI, 6, .inl ed_13)), (hnd, .inl (cI, 16, .inl nd_13))] H := hP.sub [2, 0, 1, 3, 4] rfl
                        have hD : va_D A [(hm, .inr (3, [.int sc, .ref hw, .int (nI cn), .int (nI fu), .int lf, .int (bI dd), .int dn, .int rn, .int (bI tr), .int (nI lg), .ref he, .int me, .ref hd, .ref hen, .ref hnd])), (hw, .inl (cI, 160, .inl M2)), (hd, .inl (cI, 6, .inl dg_5)), (hen, .inl (cI, 6, .inl ed_13)), (hnd, .inl (cI, 16, .inl nd_13))] := hD.sub [2, 0, 1, 3, 4] (by decide) rfl
                        clear hPc hDc hFc hP1 hD1 zk zz zvm zt
                        have hnd9 : ∀ j, 0 < j → j < 16 → nd_13 j = ndV sc j := by have h := tree_at sc ed nd; rw [hu_13] at h; exact h
                        refine lv_bipush (v := (nI 8)) hx hb d_Mo_seal_83 (by decide) ?_
                        refine lv_iload_n hx hb d_Mo_seal_85 rfl (lv_at hl 3 rfl) ?_
                        refine lv_iadd hx hb d_Mo_seal_86 ?_
                        refine tp (nI_add _ _) ?_
                        refine lv_istore_n (lv' := [(3, .int (nI (8 + q))), (0, .ref hm), (1, .int (nI b)), (2, .int (nI q))]) hx hb d_Mo_seal_87 rfl hl (by decide) rfl (fun ls hl => ?_)
                        refine lv_bipush (v := (nI 11)) hx hb d_Mo_seal_88 (by decide) ?_
                        refine lv_istore (lv' := [(4, .int (nI 11)), (3, .int (nI (8 + q))), (0, .ref hm), (1, .int (nI b)), (2, .int (nI q))]) hx hb d_Mo_seal_90 hl (by decide) rfl (fun ls hl => ?_)
                        refine lv_iload hx hb d_Mo_seal_92 (lv_at hl 0 rfl) ?_
                        refine lv_bipush (v := (nI 14)) hx hb d_Mo_seal_94 (by decide) ?_
                        refine nb_ge (tgt := 138) hx hb d_Mo_seal_96 (by decide) (by decide) (by decide) (fun h_14 => ?_) (fun h_14 => ?_)
                        · exact absurd h_14 (by decide)
                        · refine lv_aload_n hx hb d_Mo_seal_99 rfl (lv_at hl 2 rfl) ?_
                          refine va_get (D := (dC, dI)) (ci := 3) (v := .ref hw) (C := R_Mo) (T := F_Mo) (N := 15) hx hb hts in_Mo hown hK hP 0 rfl rfl 1 (by decide) (hts _ kw_440) (fun _ h9 => h9) rfl d_Mo_seal_100 ?_
                          refine lv_iload_n hx hb d_Mo_seal_103 rfl (lv_at hl 3 rfl) ?_
                          refine lv_iload hx hb d_Mo_seal_104 (lv_at hl 0 rfl) ?_
                          refine lv_iadd hx hb d_Mo_seal_106 ?_
                          refine tp (nI_add _ _) ?_
                          refine lv_aload_n hx hb d_Mo_seal_107 rfl (lv_at hl 2 rfl) ?_
                          refine va_get (D := (dC, dI)) (ci := 3) (v := .ref hnd) (C := R_Mo) (T := F_Mo) (N := 15) hx hb hts in_Mo hown hK hP 0 rfl rfl 14 (by decide) (hts _ kw_453) (fun _ h9 => h9) rfl d_Mo_seal_108 ?_
                          refine lv_iload_n hx hb d_Mo_seal_111 rfl (lv_at hl 1 rfl) ?_
                          refine lv_iconst (v := (nI 2)) hx hb d_Mo_seal_112 (by decide) ?_
                          refine lv_irem hx hb d_Mo_seal_113 (by decide) ?_
                          refine tp (pk_rem (by omega) (by decide) (by decide)) ?_
                          refine nz_ne (tgt := 123) hx hb d_Mo_seal_114 (by decide) (by omega) (fun h_15 => ?_) (fun h_15 => ?_)
                          · refine lv_iload_n hx hb d_Mo_seal_123 rfl (lv_at hl 1 rfl) ?_
                            refine lv_iconst (v := (nI 1)) hx hb d_Mo_seal_124 (by decide) ?_
                            refine lv_isub hx hb d_Mo_seal_125 ?_
                            refine tp (pk_sub (by omega)) ?_
                            refine ar_ld (k := (8 + q) - 1) hx hb hK hP 4 0 rfl rfl (by omega) (by first | decide | omega) d_Mo_seal_126 ?_
                            refine tp (y := ndV sc (sib (8 + q))) (by rw [hnd9 _ (by omega) (by omega), sib, if_neg h_15]) ?_
                            refine ar_st (k := b + 11) hx hb hK hP hD hS 1 0 rfl rfl (by omega) (by first | decide | omega) d_Mo_seal_127 (fun H locs hP hD hS => ?_)
                            have hP : va_P (dC, dI) classes [(hm, .inr (3, [.int sc, .ref hw, .int (nI cn), .int (nI fu), .int lf, .int (bI dd), .int dn, .int rn, .int (bI tr), .int (nI lg), .ref he, .int me, .ref hd, .ref hen, .ref hnd])), (hw, .inl (cI, 160, .inl (upd M2 (b + 11) (ndV sc (sib (8 + q)))))), (hd, .inl (cI, 6, .inl dg_5)), (hen, .inl (cI, 6, .inl ed_13)), (hnd, .inl (cI, 16, .inl nd_13))] H := hP
                            have hD : va_D A [(hm, .inr (3, [.int sc, .ref hw, .int (nI cn), .int (nI fu), .int lf, .int (bI dd), .int dn, .int rn, .int (bI tr), .int (nI lg), .ref he, .int me, .ref hd, .ref hen, .ref hnd])), (hw, .inl (cI, 160, .inl (upd M2 (b + 11) (ndV sc (sib (8 + q)))))), (hd, .inl (cI, 6, .inl dg_5)), (hen, .inl (cI, 6, .inl ed_13)), (hnd, .inl (cI, 16, .inl nd_13))] := hD
                            refine lv_iload_n hx hb d_Mo_seal_128 rfl (lv_at hl 1 rfl) ?_
                            refine lv_iconst (v := (nI 2)) hx hb d_Mo_seal_129 (by decide) ?_
                            refine lv_idiv hx hb d_Mo_seal_130 (by decide) ?_
                            refine tp (pk_div (by omega) (by decide) (by decide)) ?_
                            refine lv_istore_n (lv' := [(3, .int (nI ((8 + q) / 2))), (4, .int (nI 11)), (0, .ref hm), (1, .int (nI b)), (2, .int (nI q))]) hx hb d_Mo_seal_131 rfl hl (by decide) rfl (fun ls hl => ?_)
                            refine lv_iinc (k := 1) (v := (nI 12)) (lv' := [(4, .int (nI 12)), (3, .int (nI ((8 + q) / 2))), (0, .ref hm), (1, .int (nI b)), (2, .int (nI q))]) hx hb d_Mo_seal_132 hl rfl (by decide) (by decide) rfl (fun ls hl => ?_)
                            refine lv_goto (tgt := 92) hx hb d_Mo_seal_135 (by decide) ?_
                            refine lv_iload hx hb d_Mo_seal_92 (lv_at hl 0 rfl) ?_
                            refine lv_bipush (v := (nI 14)) hx hb d_Mo_seal_94 (by decide) ?_
                            refine nb_ge (tgt := 138) hx hb d_Mo_seal_96 (by decide) (by decide) (by decide) (fun h_16 => ?_) (fun h_16 => ?_)
                            · exact absurd h_16 (by decide)
                            · refine lv_aload_n hx hb d_Mo_seal_99 rfl (lv_at hl 2 rfl) ?_
                              refine va_get (D := (dC, dI)) (ci := 3) (v := .ref hw) (C := R_Mo) (T := F_Mo) (N := 15) hx hb hts in_Mo hown hK hP 0 rfl rfl 1 (by decide) (hts _ kw_440) (fun _ h9 => h9) rfl d_Mo_seal_100 ?_
                              refine lv_iload_n hx hb d_Mo_seal_103 rfl (lv_at hl 3 rfl) ?_
                              refine lv_iload hx hb d_Mo_seal_104 (lv_at hl 0 rfl) ?_
                              refine lv_iadd hx hb d_Mo_seal_106 ?_
                              refine tp (nI_add _ _) ?_
                              refine lv_aload_n hx hb d_Mo_seal_107 rfl (lv_at hl 2 rfl) ?_
                              refine va_get (D := (dC, dI)) (ci := 3) (v := .ref hnd) (C := R_Mo) (T := F_Mo) (N := 15) hx hb hts in_Mo hown hK hP 0 rfl rfl 14 (by decide) (hts _ kw_453) (fun _ h9 => h9) rfl d_Mo_seal_108 ?_
                              refine lv_iload_n hx hb d_Mo_seal_111 rfl (lv_at hl 1 rfl) ?_
                              refine lv_iconst (v := (nI 2)) hx hb d_Mo_seal_112 (by decide) ?_
                              refine lv_irem hx hb d_Mo_seal_113 (by decide) ?_
                              refine tp (pk_rem (by omega) (by decide) (by decide)) ?_
                              refine nz_ne (tgt := 123) hx hb d_Mo_seal_114 (by decide) (by omega) (fun h_17 => ?_) (fun h_17 => ?_)
                              · refine lv_iload_n hx hb d_Mo_seal_123 rfl (lv_at hl 1 rfl) ?_
                                refine lv_iconst (v := (nI 1)) hx hb d_Mo_seal_124 (by decide) ?_
                                refine lv_isub hx hb d_Mo_seal_125 ?_
                                refine tp (pk_sub (by omega)) ?_
                                refine ar_ld (k := ((8 + q) / 2) - 1) hx hb hK hP 4 0 rfl rfl (by omega) (by first | decide | omega) d_Mo_seal_126 ?_
                                refine tp (y := ndV sc (sib ((8 + q) / 2))) (by rw [hnd9 _ (by omega) (by omega), sib, if_neg h_17]) ?_
                                refine ar_st (k := b + 12) hx hb hK hP hD hS 1 0 rfl rfl (by omega) (by first | decide | omega) d_Mo_seal_127 (fun H locs hP hD hS => ?_)
                                have hP : va_P (dC, dI) classes [(hm, .inr (3, [.int sc, .ref hw, .int (nI cn), .int (nI fu), .int lf, .int (bI dd), .int dn, .int rn, .int (bI tr), .int (nI lg), .ref he, .int me, .ref hd, .ref hen, .ref hnd])), (hw, .inl (cI, 160, .inl (upd (upd M2 (b + 11) (ndV sc (sib (8 + q)))) (b + 12) (ndV sc (sib ((8 + q) / 2)))))), (hd, .inl (cI, 6, .inl dg_5)), (hen, .inl (cI, 6, .inl ed_13)), (hnd, .inl (cI, 16, .inl nd_13))] H := hP
                                have hD : va_D A [(hm, .inr (3, [.int sc, .ref hw, .int (nI cn), .int (nI fu), .int lf, .int (bI dd), .int dn, .int rn, .int (bI tr), .int (nI lg), .ref he, .int me, .ref hd, .ref hen, .ref hnd])), (hw, .inl (cI, 160, .inl (upd (upd M2 (b + 11) (ndV sc (sib (8 + q)))) (b + 12) (ndV sc (sib ((8 + q) / 2)))))), (hd, .inl (cI, 6, .inl dg_5)), (hen, .inl (cI, 6, .inl ed_13)), (hnd, .inl (cI, 16, .inl nd_13))] := hD
                                refine lv_iload_n hx hb d_Mo_seal_128 rfl (lv_at hl 1 rfl) ?_
                                refine lv_iconst (v := (nI 2)) hx hb d_Mo_seal_129 (by decide) ?_
                                refine lv_idiv hx hb d_Mo_seal_130 (by decide) ?_
                                refine tp (pk_div (by omega) (by decide) (by decide)) ?_
                                refine lv_istore_n (lv' := [(3, .int (nI (((8 + q) / 2) / 2))), (4, .int (nI 12)), (0, .ref hm), (1, .int (nI b)), (2, .int (nI q))]) hx hb d_Mo_seal_131 rfl hl (by decide) rfl (fun ls hl => ?_)
                                refine lv_iinc (k := 1) (v := (nI 13)) (lv' := [(4, .int (nI 13)), (3, .int (nI (((8 + q) / 2) / 2))), (0, .ref hm), (1, .int (nI b)), (2, .int (nI q))]) hx hb d_Mo_seal_132 hl rfl (by decide) (by decide) rfl (fun ls hl => ?_)
                                refine lv_goto (tgt := 92) hx hb d_Mo_seal_135 (by decide) ?_
                                refine lv_iload hx hb d_Mo_seal_92 (lv_at hl 0 rfl) ?_
                                refine lv_bipush (v := (nI 14)) hx hb d_Mo_seal_94 (by decide) ?_
                                refine nb_ge (tgt := 138) hx hb d_Mo_seal_96 (by decide) (by decide) (by decide) (fun h_18 => ?_) (fun h_18 => ?_)
                                · exact absurd h_18 (by decide)
                                · refine lv_aload_n hx hb d_Mo_seal_99 rfl (lv_at hl 2 rfl) ?_
                                  refine va_get (D := (dC, dI)) (ci := 3) (v := .ref hw) (C := R_Mo) (T := F_Mo) (N := 15) hx hb hts in_Mo hown hK hP 0 rfl rfl 1 (by decide) (hts _ kw_440) (fun _ h9 => h9) rfl d_Mo_seal_100 ?_
                                  refine lv_iload_n hx hb d_Mo_seal_103 rfl (lv_at hl 3 rfl) ?_
                                  refine lv_iload hx hb d_Mo_seal_104 (lv_at hl 0 rfl) ?_
                                  refine lv_iadd hx hb d_Mo_seal_106 ?_
                                  refine tp (nI_add _ _) ?_
                                  refine lv_aload_n hx hb d_Mo_seal_107 rfl (lv_at hl 2 rfl) ?_
                                  refine va_get (D := (dC, dI)) (ci := 3) (v := .ref hnd) (C := R_Mo) (T := F_Mo) (N := 15) hx hb hts in_Mo hown hK hP 0 rfl rfl 14 (by decide) (hts _ kw_453) (fun _ h9 => h9) rfl d_Mo_seal_108 ?_
                                  refine lv_iload_n hx hb d_Mo_seal_111 rfl (lv_at hl 1 rfl) ?_
                                  refine lv_iconst (v := (nI 2)) hx hb d_Mo_seal_112 (by decide) ?_
                                  refine lv_irem hx hb d_Mo_seal_113 (by decide) ?_
                                  refine tp (pk_rem (by omega) (by decide) (by decide)) ?_
                                  refine nz_ne (tgt := 123) hx hb d_Mo_seal_114 (by decide) (by omega) (fun h_19 => ?_) (fun h_19 => ?_)
                                  · refine lv_iload_n hx hb d_Mo_seal_123 rfl (lv_at hl 1 rfl) ?_
                                    refine lv_iconst (v := (nI 1)) hx hb d_Mo_seal_124 (by decide) ?_
                                    refine lv_isub hx hb d_Mo_seal_125 ?_
                                    refine tp (pk_sub (by omega)) ?_
                                    refine ar_ld (k := (((8 + q) / 2) / 2) - 1) hx hb hK hP 4 0 rfl rfl (by omega) (by first | decide | omega) d_Mo_seal_126 ?_
                                    refine tp (y := ndV sc (sib (((8 + q) / 2) / 2))) (by rw [hnd9 _ (by omega) (by omega), sib, if_neg h_19]) ?_
                                    refine ar_st (k := b + 13) hx hb hK hP hD hS 1 0 rfl rfl (by omega) (by first | decide | omega) d_Mo_seal_127 (fun H locs hP hD hS => ?_)
                                    have hP : va_P (dC, dI) classes [(hm, .inr (3, [.int sc, .ref hw, .int (nI cn), .int (nI fu), .int lf, .int (bI dd), .int dn, .int rn, .int (bI tr), .int (nI lg), .ref he, .int me, .ref hd, .ref hen, .ref hnd])), (hw, .inl (cI, 160, .inl (upd (upd (upd M2 (b + 11) (ndV sc (sib (8 + q)))) (b + 12) (ndV sc (sib ((8 + q) / 2)))) (b + 13) (ndV sc (sib (((8 + q) / 2) / 2)))))), (hd, .inl (cI, 6, .inl dg_5)), (hen, .inl (cI, 6, .inl ed_13)), (hnd, .inl (cI, 16, .inl nd_13))] H := hP
                                    have hD : va_D A [(hm, .inr (3, [.int sc, .ref hw, .int (nI cn), .int (nI fu), .int lf, .int (bI dd), .int dn, .int rn, .int (bI tr), .int (nI lg), .ref he, .int me, .ref hd, .ref hen, .ref hnd])), (hw, .inl (cI, 160, .inl (upd (upd (upd M2 (b + 11) (ndV sc (sib (8 + q)))) (b + 12) (ndV sc (sib ((8 + q) / 2)))) (b + 13) (ndV sc (sib (((8 + q) / 2) / 2)))))), (hd, .inl (cI, 6, .inl dg_5)), (hen, .inl (cI, 6, .inl ed_13)), (hnd, .inl (cI, 16, .inl nd_13))] := hD
                                    refine lv_iload_n hx hb d_Mo_seal_128 rfl (lv_at hl 1 rfl) ?_
                                    refine lv_iconst (v := (nI 2)) hx hb d_Mo_seal_129 (by decide) ?_
                                    refine lv_idiv hx hb d_Mo_seal_130 (by decide) ?_
                                    refine tp (pk_div (by omega) (by decide) (by decide)) ?_
                                    refine lv_istore_n (lv' := [(3, .int (nI ((((8 + q) / 2) / 2) / 2))), (4, .int (nI 13)), (0, .ref hm), (1, .int (nI b)), (2, .int (nI q))]) hx hb d_Mo_seal_131 rfl hl (by decide) rfl (fun ls hl => ?_)
                                    refine lv_iinc (k := 1) (v := (nI 14)) (lv' := [(4, .int (nI 14)), (3, .int (nI ((((8 + q) / 2) / 2) / 2))), (0, .ref hm), (1, .int (nI b)), (2, .int (nI q))]) hx hb d_Mo_seal_132 hl rfl (by decide) (by decide) rfl (fun ls hl => ?_)
                                    refine lv_goto (tgt := 92) hx hb d_Mo_seal_135 (by decide) ?_
                                    refine lv_iload hx hb d_Mo_seal_92 (lv_at hl 0 rfl) ?_
                                    refine lv_bipush (v := (nI 14)) hx hb d_Mo_seal_94 (by decide) ?_
                                    refine nb_ge (tgt := 138) hx hb d_Mo_seal_96 (by decide) (by decide) (by decide) (fun h_20 => ?_) (fun h_20 => ?_)
                                    · exact W.vret hx hb hr (fun t ht hW => ⟨⟨(upd (upd (upd M2 (b + 11) (ndV sc (sib (8 + q)))) (b + 12) (ndV sc (sib ((8 + q) / 2)))) (b + 13) (ndV sc (sib (((8 + q) / 2) / 2))), dg_5, ed_13, nd_13), rfl, (by subst eM2; subst eM1; rfl), by rw [ht]; exact hP, hD⟩, hS.F ht⟩) hS.2.2 d_Mo_seal_138
                                    · exact absurd h_20 (by decide)
                                  · refine lv_iload_n hx hb d_Mo_seal_117 rfl (lv_at hl 1 rfl) ?_
                                    refine lv_iconst (v := (nI 1)) hx hb d_Mo_seal_118 (by decide) ?_
                                    refine lv_iadd hx hb d_Mo_seal_119 ?_
                                    refine tp (nI_add _ _) ?_
                                    refine lv_goto (tgt := 126) hx hb d_Mo_seal_120 (by decide) ?_
                                    refine ar_ld (k := (((8 + q) / 2) / 2) + 1) hx hb hK hP 4 0 rfl rfl (by omega) (by first | decide | omega) d_Mo_seal_126 ?_
                                    refine tp (y := ndV sc (sib (((8 + q) / 2) / 2))) (by rw [hnd9 _ (by omega) (by omega), sib, if_pos h_19]) ?_
                                    refine ar_st (k := b + 13) hx hb hK hP hD hS 1 0 rfl rfl (by omega) (by first | decide | omega) d_Mo_seal_127 (fun H locs hP hD hS => ?_)
                                    have hP : va_P (dC, dI) classes [(hm, .inr (3, [.int sc, .ref hw, .int (nI cn), .int (nI fu), .int lf, .int (bI dd), .int dn, .int rn, .int (bI tr), .int (nI lg), .ref he, .int me, .ref hd, .ref hen, .ref hnd])), (hw, .inl (cI, 160, .inl (upd (upd (upd M2 (b + 11) (ndV sc (sib (8 + q)))) (b + 12) (ndV sc (sib ((8 + q) / 2)))) (b + 13) (ndV sc (sib (((8 + q) / 2) / 2)))))), (hd, .inl (cI, 6, .inl dg_5)), (hen, .inl (cI, 6, .inl ed_13)), (hnd, .inl (cI, 16, .inl nd_13))] H := hP
                                    have hD : va_D A [(hm, .inr (3, [.int sc, .ref hw, .int (nI cn), .int (nI fu), .int lf, .int (bI dd), .int dn, .int rn, .int (bI tr), .int (nI lg), .ref he, .int me, .ref hd, .ref hen, .ref hnd])), (hw, .inl (cI, 160, .inl (upd (upd (upd M2 (b + 11) (ndV sc (sib (8 + q)))) (b + 12) (ndV sc (sib ((8 + q) / 2)))) (b + 13) (ndV sc (sib (((8 + q) / 2) / 2)))))), (hd, .inl (cI, 6, .inl dg_5)), (hen, .inl (cI, 6, .inl ed_13)), (hnd, .inl (cI, 16, .inl nd_13))] := hD
                                    refine lv_iload_n hx hb d_Mo_seal_128 rfl (lv_at hl 1 rfl) ?_
                                    refine lv_iconst (v := (nI 2)) hx hb d_Mo_seal_129 (by decide) ?_
                                    refine lv_idiv hx hb d_Mo_seal_130 (by decide) ?_
                                    refine tp (pk_div (by omega) (by decide) (by decide)) ?_
                                    refine lv_istore_n (lv' := [(3, .int (nI ((((8 + q) / 2) / 2) / 2))), (4, .int (nI 13)), (0, .ref hm), (1, .int (nI b)), (2, .int (nI q))]) hx hb d_Mo_seal_131 rfl hl (by decide) rfl (fun ls hl => ?_)
                                    refine lv_iinc (k := 1) (v := (nI 14)) (lv' := [(4, .int (nI 14)), (3, .int (nI ((((8 + q) / 2) / 2) / 2))), (0, .ref hm), (1, .int (nI b)), (2, .int (nI q))]) hx hb d_Mo_seal_132 hl rfl (by decide) (by decide) rfl (fun ls hl => ?_)
                                    refine lv_goto (tgt := 92) hx hb d_Mo_seal_135 (by decide) ?_
                                    refine lv_iload hx hb d_Mo_seal_92 (lv_at hl 0 rfl) ?_
                                    refine lv_bipush (v := (nI 14)) hx hb d_Mo_seal_94 (by decide) ?_
                                    refine nb_ge (tgt := 138) hx hb d_Mo_seal_96 (by decide) (by decide) (by decide) (fun h_21 => ?_) (fun h_21 => ?_)
                                    · exact W.vret hx hb hr (fun t ht hW => ⟨⟨(upd (upd (upd M2 (b + 11) (ndV sc (sib (8 + q)))) (b + 12) (ndV sc (sib ((8 + q) / 2)))) (b + 13) (ndV sc (sib (((8 + q) / 2) / 2))), dg_5, ed_13, nd_13), rfl, (by subst eM2; subst eM1; rfl), by rw [ht]; exact hP, hD⟩, hS.F ht⟩) hS.2.2 d_Mo_seal_138
                                    · exact absurd h_21 (by decide)
                              · refine lv_iload_n hx hb d_Mo_seal_117 rfl (lv_at hl 1 rfl) ?_
                                refine lv_iconst (v := (nI 1)) hx hb d_Mo_seal_118 (by decide) ?_
                                refine lv_iadd hx hb d_Mo_seal_119 ?_
                                refine tp (nI_add _ _) ?_
                                refine lv_goto (tgt := 126) hx hb d_Mo_seal_120 (by decide) ?_
                                refine ar_ld (k := ((8 + q) / 2) + 1) hx hb hK hP 4 0 rfl rfl (by omega) (by first | decide | omega) d_Mo_seal_126 ?_
                                refine tp (y := ndV sc (sib ((8 + q) / 2))) (by rw [hnd9 _ (by omega) (by omega), sib, if_pos h_17]) ?_
                                refine ar_st (k := b + 12) hx hb hK hP hD hS 1 0 rfl rfl (by omega) (by first | decide | omega) d_Mo_seal_127 (fun H locs hP hD hS => ?_)
                                have hP : va_P (dC, dI) classes [(hm, .inr (3, [.int sc, .ref hw, .int (nI cn), .int (nI fu), .int lf, .int (bI dd), .int dn, .int rn, .int (bI tr), .int (nI lg), .ref he, .int me, .ref hd, .ref hen, .ref hnd])), (hw, .inl (cI, 160, .inl (upd (upd M2 (b + 11) (ndV sc (sib (8 + q)))) (b + 12) (ndV sc (sib ((8 + q) / 2)))))), (hd, .inl (cI, 6, .inl dg_5)), (hen, .inl (cI, 6, .inl ed_13)), (hnd, .inl (cI, 16, .inl nd_13))] H := hP
                                have hD : va_D A [(hm, .inr (3, [.int sc, .ref hw, .int (nI cn), .int (nI fu), .int lf, .int (bI dd), .int dn, .int rn, .int (bI tr), .int (nI lg), .ref he, .int me, .ref hd, .ref hen, .ref hnd])), (hw, .inl (cI, 160, .inl (upd (upd M2 (b + 11) (ndV sc (sib (8 + q)))) (b + 12) (ndV sc (sib ((8 + q) / 2)))))), (hd, .inl (cI, 6, .inl dg_5)), (hen, .inl (cI, 6, .inl ed_13)), (hnd, .inl (cI, 16, .inl nd_13))] := hD
                                refine lv_iload_n hx hb d_Mo_seal_128 rfl (lv_at hl 1 rfl) ?_
                                refine lv_iconst (v := (nI 2)) hx hb d_Mo_seal_129 (by decide) ?_
                                refine lv_idiv hx hb d_Mo_seal_130 (by decide) ?_
                                refine tp (pk_div (by omega) (by decide) (by decide)) ?_
                                refine lv_istore_n (lv' := [(3, .int (nI (((8 + q) / 2) / 2))), (4, .int (nI 12)), (0, .ref hm), (1, .int (nI b)), (2, .int (nI q))]) hx hb d_Mo_seal_131 rfl hl (by decide) rfl (fun ls hl => ?_)
                                refine lv_iinc (k := 1) (v := (nI 13)) (lv' := [(4, .int (nI 13)), (3, .int (nI (((8 + q) / 2) / 2))), (0, .ref hm), (1, .int (nI b)), (2, .int (nI q))]) hx hb d_Mo_seal_132 hl rfl (by decide) (by decide) rfl (fun ls hl => ?_)
                                refine lv_goto (tgt := 92) hx hb d_Mo_seal_135 (by decide) ?_
                                refine lv_iload hx hb d_Mo_seal_92 (lv_at hl 0 rfl) ?_
                                refine lv_bipush (v := (nI 14)) hx hb d_Mo_seal_94 (by decide) ?_
                                refine nb_ge (tgt := 138) hx hb d_Mo_seal_96 (by decide) (by decide) (by decide) (fun h_22 => ?_) (fun h_22 => ?_)
                                · exact absurd h_22 (by decide)
                                · refine lv_aload_n hx hb d_Mo_seal_99 rfl (lv_at hl 2 rfl) ?_
                                  refine va_get (D := (dC, dI)) (ci := 3) (v := .ref hw) (C := R_Mo) (T := F_Mo) (N := 15) hx hb hts in_Mo hown hK hP 0 rfl rfl 1 (by decide) (hts _ kw_440) (fun _ h9 => h9) rfl d_Mo_seal_100 ?_
                                  refine lv_iload_n hx hb d_Mo_seal_103 rfl (lv_at hl 3 rfl) ?_
                                  refine lv_iload hx hb d_Mo_seal_104 (lv_at hl 0 rfl) ?_
                                  refine lv_iadd hx hb d_Mo_seal_106 ?_
                                  refine tp (nI_add _ _) ?_
                                  refine lv_aload_n hx hb d_Mo_seal_107 rfl (lv_at hl 2 rfl) ?_
                                  refine va_get (D := (dC, dI)) (ci := 3) (v := .ref hnd) (C := R_Mo) (T := F_Mo) (N := 15) hx hb hts in_Mo hown hK hP 0 rfl rfl 14 (by decide) (hts _ kw_453) (fun _ h9 => h9) rfl d_Mo_seal_108 ?_
                                  refine lv_iload_n hx hb d_Mo_seal_111 rfl (lv_at hl 1 rfl) ?_
                                  refine lv_iconst (v := (nI 2)) hx hb d_Mo_seal_112 (by decide) ?_
                                  refine lv_irem hx hb d_Mo_seal_113 (by decide) ?_
                                  refine tp (pk_rem (by omega) (by decide) (by decide)) ?_
                                  refine nz_ne (tgt := 123) hx hb d_Mo_seal_114 (by decide) (by omega) (fun h_23 => ?_) (fun h_23 => ?_)
                                  · refine lv_iload_n hx hb d_Mo_seal_123 rfl (lv_at hl 1 rfl) ?_
                                    refine lv_iconst (v := (nI 1)) hx hb d_Mo_seal_124 (by decide) ?_
                                    refine lv_isub hx hb d_Mo_seal_125 ?_
                                    refine tp (pk_sub (by omega)) ?_
                                    refine ar_ld (k := (((8 + q) / 2) / 2) - 1) hx hb hK hP 4 0 rfl rfl (by omega) (by first | decide | omega) d_Mo_seal_126 ?_
                                    refine tp (y := ndV sc (sib (((8 + q) / 2) / 2))) (by rw [hnd9 _ (by omega) (by omega), sib, if_neg h_23]) ?_
                                    refine ar_st (k := b + 13) hx hb hK hP hD hS 1 0 rfl rfl (by omega) (by first | decide | omega) d_Mo_seal_127 (fun H locs hP hD hS => ?_)
                                    have hP : va_P (dC, dI) classes [(hm, .inr (3, [.int sc, .ref hw, .int (nI cn), .int (nI fu), .int lf, .int (bI dd), .int dn, .int rn, .int (bI tr), .int (nI lg), .ref he, .int me, .ref hd, .ref hen, .ref hnd])), (hw, .inl (cI, 160, .inl (upd (upd (upd M2 (b + 11) (ndV sc (sib (8 + q)))) (b + 12) (ndV sc (sib ((8 + q) / 2)))) (b + 13) (ndV sc (sib (((8 + q) / 2) / 2)))))), (hd, .inl (cI, 6, .inl dg_5)), (hen, .inl (cI, 6, .inl ed_13)), (hnd, .inl (cI, 16, .inl nd_13))] H := hP
                                    have hD : va_D A [(hm, .inr (3, [.int sc, .ref hw, .int (nI cn), .int (nI fu), .int lf, .int (bI dd), .int dn, .int rn, .int (bI tr), .int (nI lg), .ref he, .int me, .ref hd, .ref hen, .ref hnd])), (hw, .inl (cI, 160, .inl (upd (upd (upd M2 (b + 11) (ndV sc (sib (8 + q)))) (b + 12) (ndV sc (sib ((8 + q) / 2)))) (b + 13) (ndV sc (sib (((8 + q) / 2) / 2)))))), (hd, .inl (cI, 6, .inl dg_5)), (hen, .inl (cI, 6, .inl ed_13)), (hnd, .inl (cI, 16, .inl nd_13))] := hD
                                    refine lv_iload_n hx hb d_Mo_seal_128 rfl (lv_at hl 1 rfl) ?_
                                    refine lv_iconst (v := (nI 2)) hx hb d_Mo_seal_129 (by decide) ?_
                                    refine lv_idiv hx hb d_Mo_seal_130 (by decide) ?_
                                    refine tp (pk_div (by omega) (by decide) (by decide)) ?_
                                    refine lv_istore_n (lv' := [(3, .int (nI ((((8 + q) / 2) / 2) / 2))), (4, .int (nI 13)), (0, .ref hm), (1, .int (nI b)), (2, .int (nI q))]) hx hb d_Mo_seal_131 rfl hl (by decide) rfl (fun ls hl => ?_)
                                    refine lv_iinc (k := 1) (v := (nI 14)) (lv' := [(4, .int (nI 14)), (3, .int (nI ((((8 + q) / 2) / 2) / 2))), (0, .ref hm), (1, .int (nI b)), (2, .int (nI q))]) hx hb d_Mo_seal_132 hl rfl (by decide) (by decide) rfl (fun ls hl => ?_)
                                    refine lv_goto (tgt := 92) hx hb d_Mo_seal_135 (by decide) ?_
                                    refine lv_iload hx hb d_Mo_seal_92 (lv_at hl 0 rfl) ?_
                                    refine lv_bipush (v := (nI 14)) hx hb d_Mo_seal_94 (by decide) ?_
                                    refine nb_ge (tgt := 138) hx hb d_Mo_seal_96 (by decide) (by decide) (by decide) (fun h_24 => ?_) (fun h_24 => ?_)
                                    · exact W.vret hx hb hr (fun t ht hW => ⟨⟨(upd (upd (upd M2 (b + 11) (ndV sc (sib (8 + q)))) (b + 12) (ndV sc (sib ((8 + q) / 2)))) (b + 13) (ndV sc (sib (((8 + q) / 2) / 2))), dg_5, ed_13, nd_13), rfl, (by subst eM2; subst eM1; rfl), by rw [ht]; exact hP, hD⟩, hS.F ht⟩) hS.2.2 d_Mo_seal_138
                                    · exact absurd h_24 (by decide)
                                  · refine lv_iload_n hx hb d_Mo_seal_117 rfl (lv_at hl 1 rfl) ?_
                                    refine lv_iconst (v := (nI 1)) hx hb d_Mo_seal_118 (by decide) ?_
                                    refine lv_iadd hx hb d_Mo_seal_119 ?_
                                    refine tp (nI_add _ _) ?_
                                    refine lv_goto (tgt := 126) hx hb d_Mo_seal_120 (by decide) ?_
                                    refine ar_ld (k := (((8 + q) / 2) / 2) + 1) hx hb hK hP 4 0 rfl rfl (by omega) (by first | decide | omega) d_Mo_seal_126 ?_
                                    refine tp (y := ndV sc (sib (((8 + q) / 2) / 2))) (by rw [hnd9 _ (by omega) (by omega), sib, if_pos h_23]) ?_
                                    refine ar_st (k := b + 13) hx hb hK hP hD hS 1 0 rfl rfl (by omega) (by first | decide | omega) d_Mo_seal_127 (fun H locs hP hD hS => ?_)
                                    have hP : va_P (dC, dI) classes [(hm, .inr (3, [.int sc, .ref hw, .int (nI cn), .int (nI fu), .int lf, .int (bI dd), .int dn, .int rn, .int (bI tr), .int (nI lg), .ref he, .int me, .ref hd, .ref hen, .ref hnd])), (hw, .inl (cI, 160, .inl (upd (upd (upd M2 (b + 11) (ndV sc (sib (8 + q)))) (b + 12) (ndV sc (sib ((8 + q) / 2)))) (b + 13) (ndV sc (sib (((8 + q) / 2) / 2)))))), (hd, .inl (cI, 6, .inl dg_5)), (hen, .inl (cI, 6, .inl ed_13)), (hnd, .inl (cI, 16, .inl nd_13))] H := hP
                                    have hD : va_D A [(hm, .inr (3, [.int sc, .ref hw, .int (nI cn), .int (nI fu), .int lf, .int (bI dd), .int dn, .int rn, .int (bI tr), .int (nI lg), .ref he, .int me, .ref hd, .ref hen, .ref hnd])), (hw, .inl (cI, 160, .inl (upd (upd (upd M2 (b + 11) (ndV sc (sib (8 + q)))) (b + 12) (ndV sc (sib ((8 + q) / 2)))) (b + 13) (ndV sc (sib (((8 + q) / 2) / 2)))))), (hd, .inl (cI, 6, .inl dg_5)), (hen, .inl (cI, 6, .inl ed_13)), (hnd, .inl (cI, 16, .inl nd_13))] := hD
                                    refine lv_iload_n hx hb d_Mo_seal_128 rfl (lv_at hl 1 rfl) ?_
                                    refine lv_iconst (v := (nI 2)) hx hb d_Mo_seal_129 (by decide) ?_
                                    refine lv_idiv hx hb d_Mo_seal_130 (by decide) ?_
                                    refine tp (pk_div (by omega) (by decide) (by decide)) ?_
                                    refine lv_istore_n (lv' := [(3, .int (nI ((((8 + q) / 2) / 2) / 2))), (4, .int (nI 13)), (0, .ref hm), (1, .int (nI b)), (2, .int (nI q))]) hx hb d_Mo_seal_131 rfl hl (by decide) rfl (fun ls hl => ?_)
                                    refine lv_iinc (k := 1) (v := (nI 14)) (lv' := [(4, .int (nI 14)), (3, .int (nI ((((8 + q) / 2) / 2) / 2))), (0, .ref hm), (1, .int (nI b)), (2, .int (nI q))]) hx hb d_Mo_seal_132 hl rfl (by decide) (by decide) rfl (fun ls hl => ?_)
                                    refine lv_goto (tgt := 92) hx hb d_Mo_seal_135 (by decide) ?_
                                    refine lv_iload hx hb d_Mo_seal_92 (lv_at hl 0 rfl) ?_
                                    refine lv_bipush (v := (nI 14)) hx hb d_Mo_seal_94 (by decide) ?_
                                    refine nb_ge (tgt := 138) hx hb d_Mo_seal_96 (by decide) (by decide) (by decide) (fun h_25 => ?_) (fun h_25 => ?_)
                                    · exact W.vret hx hb hr (fun t ht hW => ⟨⟨(upd (upd (upd M2 (b + 11) (ndV sc (sib (8 + q)))) (b + 12) (ndV sc (sib ((8 + q) / 2)))) (b + 13) (ndV sc (sib (((8 + q) / 2) / 2))), dg_5, ed_13, nd_13), rfl, (by subst eM2; subst eM1; rfl), by rw [ht]; exact hP, hD⟩, hS.F ht⟩) hS.2.2 d_Mo_seal_138
                                    · exact absurd h_25 (by decide)
                          · refine lv_iload_n hx hb d_Mo_seal_117 rfl (lv_at hl 1 rfl) ?_
                            refine lv_iconst (v := (nI 1)) hx hb d_Mo_seal_118 (by decide) ?_
                            refine lv_iadd hx hb d_Mo_seal_119 ?_
                            refine tp (nI_add _ _) ?_
                            refine lv_goto (tgt := 126) hx hb d_Mo_seal_120 (by decide) ?_
                            refine ar_ld (k := (8 + q) + 1) hx hb hK hP 4 0 rfl rfl (by omega) (by first | decide | omega) d_Mo_seal_126 ?_
                            refine tp (y := ndV sc (sib (8 + q))) (by rw [hnd9 _ (by omega) (by omega), sib, if_pos h_15]) ?_
                            refine ar_st (k := b + 11) hx hb hK hP hD hS 1 0 rfl rfl (by omega) (by first | decide | omega) d_Mo_seal_127 (fun H locs hP hD hS => ?_)
                            have hP : va_P (dC, dI) classes [(hm, .inr (3, [.int sc, .ref hw, .int (nI cn), .int (nI fu), .int lf, .int (bI dd), .int dn, .int rn, .int (bI tr), .int (nI lg), .ref he, .int me, .ref hd, .ref hen, .ref hnd])), (hw, .inl (cI, 160, .inl (upd M2 (b + 11) (ndV sc (sib (8 + q)))))), (hd, .inl (cI, 6, .inl dg_5)), (hen, .inl (cI, 6, .inl ed_13)), (hnd, .inl (cI, 16, .inl nd_13))] H := hP
                            have hD : va_D A [(hm, .inr (3, [.int sc, .ref hw, .int (nI cn), .int (nI fu), .int lf, .int (bI dd), .int dn, .int rn, .int (bI tr), .int (nI lg), .ref he, .int me, .ref hd, .ref hen, .ref hnd])), (hw, .inl (cI, 160, .inl (upd M2 (b + 11) (ndV sc (sib (8 + q)))))), (hd, .inl (cI, 6, .inl dg_5)), (hen, .inl (cI, 6, .inl ed_13)), (hnd, .inl (cI, 16, .inl nd_13))] := hD
                            refine lv_iload_n hx hb d_Mo_seal_128 rfl (lv_at hl 1 rfl) ?_
                            refine lv_iconst (v := (nI 2)) hx hb d_Mo_seal_129 (by decide) ?_
                            refine lv_idiv hx hb d_Mo_seal_130 (by decide) ?_
                            refine tp (pk_div (by omega) (by decide) (by decide)) ?_
                            refine lv_istore_n (lv' := [(3, .int (nI ((8 + q) / 2))), (4, .int (nI 11)), (0, .ref hm), (1, .int (nI b)), (2, .int (nI q))]) hx hb d_Mo_seal_131 rfl hl (by decide) rfl (fun ls hl => ?_)
                            refine lv_iinc (k := 1) (v := (nI 12)) (lv' := [(4, .int (nI 12)), (3, .int (nI ((8 + q) / 2))), (0, .ref hm), (1, .int (nI b)), (2, .int (nI q))]) hx hb d_Mo_seal_132 hl rfl (by decide) (by decide) rfl (fun ls hl => ?_)
                            refine lv_goto (tgt := 92) hx hb d_Mo_seal_135 (by decide) ?_
                            refine lv_iload hx hb d_Mo_seal_92 (lv_at hl 0 rfl) ?_
                            refine lv_bipush (v := (nI 14)) hx hb d_Mo_seal_94 (by decide) ?_
                            refine nb_ge (tgt := 138) hx hb d_Mo_seal_96 (by decide) (by decide) (by decide) (fun h_26 => ?_) (fun h_26 => ?_)
                            · exact absurd h_26 (by decide)
                            · refine lv_aload_n hx hb d_Mo_seal_99 rfl (lv_at hl 2 rfl) ?_
                              refine va_get (D := (dC, dI)) (ci := 3) (v := .ref hw) (C := R_Mo) (T := F_Mo) (N := 15) hx hb hts in_Mo hown hK hP 0 rfl rfl 1 (by decide) (hts _ kw_440) (fun _ h9 => h9) rfl d_Mo_seal_100 ?_
                              refine lv_iload_n hx hb d_Mo_seal_103 rfl (lv_at hl 3 rfl) ?_
                              refine lv_iload hx hb d_Mo_seal_104 (lv_at hl 0 rfl) ?_
                              refine lv_iadd hx hb d_Mo_seal_106 ?_
                              refine tp (nI_add _ _) ?_
                              refine lv_aload_n hx hb d_Mo_seal_107 rfl (lv_at hl 2 rfl) ?_
                              refine va_get (D := (dC, dI)) (ci := 3) (v := .ref hnd) (C := R_Mo) (T := F_Mo) (N := 15) hx hb hts in_Mo hown hK hP 0 rfl rfl 14 (by decide) (hts _ kw_453) (fun _ h9 => h9) rfl d_Mo_seal_108 ?_
                              refine lv_iload_n hx hb d_Mo_seal_111 rfl (lv_at hl 1 rfl) ?_
                              refine lv_iconst (v := (nI 2)) hx hb d_Mo_seal_112 (by decide) ?_
                              refine lv_irem hx hb d_Mo_seal_113 (by decide) ?_
                              refine tp (pk_rem (by omega) (by decide) (by decide)) ?_
                              refine nz_ne (tgt := 123) hx hb d_Mo_seal_114 (by decide) (by omega) (fun h_27 => ?_) (fun h_27 => ?_)
                              · refine lv_iload_n hx hb d_Mo_seal_123 rfl (lv_at hl 1 rfl) ?_
                                refine lv_iconst (v := (nI 1)) hx hb d_Mo_seal_124 (by decide) ?_
                                refine lv_isub hx hb d_Mo_seal_125 ?_
                                refine tp (pk_sub (by omega)) ?_
                                refine ar_ld (k := ((8 + q) / 2) - 1) hx hb hK hP 4 0 rfl rfl (by omega) (by first | decide | omega) d_Mo_seal_126 ?_
                                refine tp (y := ndV sc (sib ((8 + q) / 2))) (by rw [hnd9 _ (by omega) (by omega), sib, if_neg h_27]) ?_
                                refine ar_st (k := b + 12) hx hb hK hP hD hS 1 0 rfl rfl (by omega) (by first | decide | omega) d_Mo_seal_127 (fun H locs hP hD hS => ?_)
                                have hP : va_P (dC, dI) classes [(hm, .inr (3, [.int sc, .ref hw, .int (nI cn), .int (nI fu), .int lf, .int (bI dd), .int dn, .int rn, .int (bI tr), .int (nI lg), .ref he, .int me, .ref hd, .ref hen, .ref hnd])), (hw, .inl (cI, 160, .inl (upd (upd M2 (b + 11) (ndV sc (sib (8 + q)))) (b + 12) (ndV sc (sib ((8 + q) / 2)))))), (hd, .inl (cI, 6, .inl dg_5)), (hen, .inl (cI, 6, .inl ed_13)), (hnd, .inl (cI, 16, .inl nd_13))] H := hP
                                have hD : va_D A [(hm, .inr (3, [.int sc, .ref hw, .int (nI cn), .int (nI fu), .int lf, .int (bI dd), .int dn, .int rn, .int (bI tr), .int (nI lg), .ref he, .int me, .ref hd, .ref hen, .ref hnd])), (hw, .inl (cI, 160, .inl (upd (upd M2 (b + 11) (ndV sc (sib (8 + q)))) (b + 12) (ndV sc (sib ((8 + q) / 2)))))), (hd, .inl (cI, 6, .inl dg_5)), (hen, .inl (cI, 6, .inl ed_13)), (hnd, .inl (cI, 16, .inl nd_13))] := hD
                                refine lv_iload_n hx hb d_Mo_seal_128 rfl (lv_at hl 1 rfl) ?_
                                refine lv_iconst (v := (nI 2)) hx hb d_Mo_seal_129 (by decide) ?_
                                refine lv_idiv hx hb d_Mo_seal_130 (by decide) ?_
                                refine tp (pk_div (by omega) (by decide) (by decide)) ?_
                                refine lv_istore_n (lv' := [(3, .int (nI (((8 + q) / 2) / 2))), (4, .int (nI 12)), (0, .ref hm), (1, .int (nI b)), (2, .int (nI q))]) hx hb d_Mo_seal_131 rfl hl (by decide) rfl (fun ls hl => ?_)
                                refine lv_iinc (k := 1) (v := (nI 13)) (lv' := [(4, .int (nI 13)), (3, .int (nI (((8 + q) / 2) / 2))), (0, .ref hm), (1, .int (nI b)), (2, .int (nI q))]) hx hb d_Mo_seal_132 hl rfl (by decide) (by decide) rfl (fun ls hl => ?_)
                                refine lv_goto (tgt := 92) hx hb d_Mo_seal_135 (by decide) ?_
                                refine lv_iload hx hb d_Mo_seal_92 (lv_at hl 0 rfl) ?_
                                refine lv_bipush (v := (nI 14)) hx hb d_Mo_seal_94 (by decide) ?_
                                refine nb_ge (tgt := 138) hx hb d_Mo_seal_96 (by decide) (by decide) (by decide) (fun h_28 => ?_) (fun h_28 => ?_)
                                · exact absurd h_28 (by decide)
                                · refine lv_aload_n hx hb d_Mo_seal_99 rfl (lv_at hl 2 rfl) ?_
                                  refine va_get (D := (dC, dI)) (ci := 3) (v := .ref hw) (C := R_Mo) (T := F_Mo) (N := 15) hx hb hts in_Mo hown hK hP 0 rfl rfl 1 (by decide) (hts _ kw_440) (fun _ h9 => h9) rfl d_Mo_seal_100 ?_
                                  refine lv_iload_n hx hb d_Mo_seal_103 rfl (lv_at hl 3 rfl) ?_
                                  refine lv_iload hx hb d_Mo_seal_104 (lv_at hl 0 rfl) ?_
                                  refine lv_iadd hx hb d_Mo_seal_106 ?_
                                  refine tp (nI_add _ _) ?_
                                  refine lv_aload_n hx hb d_Mo_seal_107 rfl (lv_at hl 2 rfl) ?_
                                  refine va_get (D := (dC, dI)) (ci := 3) (v := .ref hnd) (C := R_Mo) (T := F_Mo) (N := 15) hx hb hts in_Mo hown hK hP 0 rfl rfl 14 (by decide) (hts _ kw_453) (fun _ h9 => h9) rfl d_Mo_seal_108 ?_
                                  refine lv_iload_n hx hb d_Mo_seal_111 rfl (lv_at hl 1 rfl) ?_
                                  refine lv_iconst (v := (nI 2)) hx hb d_Mo_seal_112 (by decide) ?_
                                  refine lv_irem hx hb d_Mo_seal_113 (by decide) ?_
                                  refine tp (pk_rem (by omega) (by decide) (by decide)) ?_
                                  refine nz_ne (tgt := 123) hx hb d_Mo_seal_114 (by decide) (by omega) (fun h_29 => ?_) (fun h_29 => ?_)
                                  · refine lv_iload_n hx hb d_Mo_seal_123 rfl (lv_at hl 1 rfl) ?_
                                    refine lv_iconst (v := (nI 1)) hx hb d_Mo_seal_124 (by decide) ?_
                                    refine lv_isub hx hb d_Mo_seal_125 ?_
                                    refine tp (pk_sub (by omega)) ?_
                                    refine ar_ld (k := (((8 + q) / 2) / 2) - 1) hx hb hK hP 4 0 rfl rfl (by omega) (by first | decide | omega) d_Mo_seal_126 ?_
                                    refine tp (y := ndV sc (sib (((8 + q) / 2) / 2))) (by rw [hnd9 _ (by omega) (by omega), sib, if_neg h_29]) ?_
                                    refine ar_st (k := b + 13) hx hb hK hP hD hS 1 0 rfl rfl (by omega) (by first | decide | omega) d_Mo_seal_127 (fun H locs hP hD hS => ?_)
                                    have hP : va_P (dC, dI) classes [(hm, .inr (3, [.int sc, .ref hw, .int (nI cn), .int (nI fu), .int lf, .int (bI dd), .int dn, .int rn, .int (bI tr), .int (nI lg), .ref he, .int me, .ref hd, .ref hen, .ref hnd])), (hw, .inl (cI, 160, .inl (upd (upd (upd M2 (b + 11) (ndV sc (sib (8 + q)))) (b + 12) (ndV sc (sib ((8 + q) / 2)))) (b + 13) (ndV sc (sib (((8 + q) / 2) / 2)))))), (hd, .inl (cI, 6, .inl dg_5)), (hen, .inl (cI, 6, .inl ed_13)), (hnd, .inl (cI, 16, .inl nd_13))] H := hP
                                    have hD : va_D A [(hm, .inr (3, [.int sc, .ref hw, .int (nI cn), .int (nI fu), .int lf, .int (bI dd), .int dn, .int rn, .int (bI tr), .int (nI lg), .ref he, .int me, .ref hd, .ref hen, .ref hnd])), (hw, .inl (cI, 160, .inl (upd (upd (upd M2 (b + 11) (ndV sc (sib (8 + q)))) (b + 12) (ndV sc (sib ((8 + q) / 2)))) (b + 13) (ndV sc (sib (((8 + q) / 2) / 2)))))), (hd, .inl (cI, 6, .inl dg_5)), (hen, .inl (cI, 6, .inl ed_13)), (hnd, .inl (cI, 16, .inl nd_13))] := hD
                                    refine lv_iload_n hx hb d_Mo_seal_128 rfl (lv_at hl 1 rfl) ?_
                                    refine lv_iconst (v := (nI 2)) hx hb d_Mo_seal_129 (by decide) ?_
                                    refine lv_idiv hx hb d_Mo_seal_130 (by decide) ?_
                                    refine tp (pk_div (by omega) (by decide) (by decide)) ?_
                                    refine lv_istore_n (lv' := [(3, .int (nI ((((8 + q) / 2) / 2) / 2))), (4, .int (nI 13)), (0, .ref hm), (1, .int (nI b)), (2, .int (nI q))]) hx hb d_Mo_seal_131 rfl hl (by decide) rfl (fun ls hl => ?_)
                                    refine lv_iinc (k := 1) (v := (nI 14)) (lv' := [(4, .int (nI 14)), (3, .int (nI ((((8 + q) / 2) / 2) / 2))), (0, .ref hm), (1, .int (nI b)), (2, .int (nI q))]) hx hb d_Mo_seal_132 hl rfl (by decide) (by decide) rfl (fun ls hl => ?_)
                                    refine lv_goto (tgt := 92) hx hb d_Mo_seal_135 (by decide) ?_
                                    refine lv_iload hx hb d_Mo_seal_92 (lv_at hl 0 rfl) ?_
                                    refine lv_bipush (v := (nI 14)) hx hb d_Mo_seal_94 (by decide) ?_
                                    refine nb_ge (tgt := 138) hx hb d_Mo_seal_96 (by decide) (by decide) (by decide) (fun h_30 => ?_) (fun h_30 => ?_)
                                    · exact W.vret hx hb hr (fun t ht hW => ⟨⟨(upd (upd (upd M2 (b + 11) (ndV sc (sib (8 + q)))) (b + 12) (ndV sc (sib ((8 + q) / 2)))) (b + 13) (ndV sc (sib (((8 + q) / 2) / 2))), dg_5, ed_13, nd_13), rfl, (by subst eM2; subst eM1; rfl), by rw [ht]; exact hP, hD⟩, hS.F ht⟩) hS.2.2 d_Mo_seal_138
                                    · exact absurd h_30 (by decide)
                                  · refine lv_iload_n hx hb d_Mo_seal_117 rfl (lv_at hl 1 rfl) ?_
                                    refine lv_iconst (v := (nI 1)) hx hb d_Mo_seal_118 (by decide) ?_
                                    refine lv_iadd hx hb d_Mo_seal_119 ?_
                                    refine tp (nI_add _ _) ?_
                                    refine lv_goto (tgt := 126) hx hb d_Mo_seal_120 (by decide) ?_
                                    refine ar_ld (k := (((8 + q) / 2) / 2) + 1) hx hb hK hP 4 0 rfl rfl (by omega) (by first | decide | omega) d_Mo_seal_126 ?_
                                    refine tp (y := ndV sc (sib (((8 + q) / 2) / 2))) (by rw [hnd9 _ (by omega) (by omega), sib, if_pos h_29]) ?_
                                    refine ar_st (k := b + 13) hx hb hK hP hD hS 1 0 rfl rfl (by omega) (by first | decide | omega) d_Mo_seal_127 (fun H locs hP hD hS => ?_)
                                    have hP : va_P (dC, dI) classes [(hm, .inr (3, [.int sc, .ref hw, .int (nI cn), .int (nI fu), .int lf, .int (bI dd), .int dn, .int rn, .int (bI tr), .int (nI lg), .ref he, .int me, .ref hd, .ref hen, .ref hnd])), (hw, .inl (cI, 160, .inl (upd (upd (upd M2 (b + 11) (ndV sc (sib (8 + q)))) (b + 12) (ndV sc (sib ((8 + q) / 2)))) (b + 13) (ndV sc (sib (((8 + q) / 2) / 2)))))), (hd, .inl (cI, 6, .inl dg_5)), (hen, .inl (cI, 6, .inl ed_13)), (hnd, .inl (cI, 16, .inl nd_13))] H := hP
                                    have hD : va_D A [(hm, .inr (3, [.int sc, .ref hw, .int (nI cn), .int (nI fu), .int lf, .int (bI dd), .int dn, .int rn, .int (bI tr), .int (nI lg), .ref he, .int me, .ref hd, .ref hen, .ref hnd])), (hw, .inl (cI, 160, .inl (upd (upd (upd M2 (b + 11) (ndV sc (sib (8 + q)))) (b + 12) (ndV sc (sib ((8 + q) / 2)))) (b + 13) (ndV sc (sib (((8 + q) / 2) / 2)))))), (hd, .inl (cI, 6, .inl dg_5)), (hen, .inl (cI, 6, .inl ed_13)), (hnd, .inl (cI, 16, .inl nd_13))] := hD
                                    refine lv_iload_n hx hb d_Mo_seal_128 rfl (lv_at hl 1 rfl) ?_
                                    refine lv_iconst (v := (nI 2)) hx hb d_Mo_seal_129 (by decide) ?_
                                    refine lv_idiv hx hb d_Mo_seal_130 (by decide) ?_
                                    refine tp (pk_div (by omega) (by decide) (by decide)) ?_
                                    refine lv_istore_n (lv' := [(3, .int (nI ((((8 + q) / 2) / 2) / 2))), (4, .int (nI 13)), (0, .ref hm), (1, .int (nI b)), (2, .int (nI q))]) hx hb d_Mo_seal_131 rfl hl (by decide) rfl (fun ls hl => ?_)
                                    refine lv_iinc (k := 1) (v := (nI 14)) (lv' := [(4, .int (nI 14)), (3, .int (nI ((((8 + q) / 2) / 2) / 2))), (0, .ref hm), (1, .int (nI b)), (2, .int (nI q))]) hx hb d_Mo_seal_132 hl rfl (by decide) (by decide) rfl (fun ls hl => ?_)
                                    refine lv_goto (tgt := 92) hx hb d_Mo_seal_135 (by decide) ?_
                                    refine lv_iload hx hb d_Mo_seal_92 (lv_at hl 0 rfl) ?_
                                    refine lv_bipush (v := (nI 14)) hx hb d_Mo_seal_94 (by decide) ?_
                                    refine nb_ge (tgt := 138) hx hb d_Mo_seal_96 (by decide) (by decide) (by decide) (fun h_31 => ?_) (fun h_31 => ?_)
                                    · exact W.vret hx hb hr (fun t ht hW => ⟨⟨(upd (upd (upd M2 (b + 11) (ndV sc (sib (8 + q)))) (b + 12) (ndV sc (sib ((8 + q) / 2)))) (b + 13) (ndV sc (sib (((8 + q) / 2) / 2))), dg_5, ed_13, nd_13), rfl, (by subst eM2; subst eM1; rfl), by rw [ht]; exact hP, hD⟩, hS.F ht⟩) hS.2.2 d_Mo_seal_138
                                    · exact absurd h_31 (by decide)
                              · refine lv_iload_n hx hb d_Mo_seal_117 rfl (lv_at hl 1 rfl) ?_
                                refine lv_iconst (v := (nI 1)) hx hb d_Mo_seal_118 (by decide) ?_
                                refine lv_iadd hx hb d_Mo_seal_119 ?_
                                refine tp (nI_add _ _) ?_
                                refine lv_goto (tgt := 126) hx hb d_Mo_seal_120 (by decide) ?_
                                refine ar_ld (k := ((8 + q) / 2) + 1) hx hb hK hP 4 0 rfl rfl (by omega) (by first | decide | omega) d_Mo_seal_126 ?_
                                refine tp (y := ndV sc (sib ((8 + q) / 2))) (by rw [hnd9 _ (by omega) (by omega), sib, if_pos h_27]) ?_
                                refine ar_st (k := b + 12) hx hb hK hP hD hS 1 0 rfl rfl (by omega) (by first | decide | omega) d_Mo_seal_127 (fun H locs hP hD hS => ?_)
                                have hP : va_P (dC, dI) classes [(hm, .inr (3, [.int sc, .ref hw, .int (nI cn), .int (nI fu), .int lf, .int (bI dd), .int dn, .int rn, .int (bI tr), .int (nI lg), .ref he, .int me, .ref hd, .ref hen, .ref hnd])), (hw, .inl (cI, 160, .inl (upd (upd M2 (b + 11) (ndV sc (sib (8 + q)))) (b + 12) (ndV sc (sib ((8 + q) / 2)))))), (hd, .inl (cI, 6, .inl dg_5)), (hen, .inl (cI, 6, .inl ed_13)), (hnd, .inl (cI, 16, .inl nd_13))] H := hP
                                have hD : va_D A [(hm, .inr (3, [.int sc, .ref hw, .int (nI cn), .int (nI fu), .int lf, .int (bI dd), .int dn, .int rn, .int (bI tr), .int (nI lg), .ref he, .int me, .ref hd, .ref hen, .ref hnd])), (hw, .inl (cI, 160, .inl (upd (upd M2 (b + 11) (ndV sc (sib (8 + q)))) (b + 12) (ndV sc (sib ((8 + q) / 2)))))), (hd, .inl (cI, 6, .inl dg_5)), (hen, .inl (cI, 6, .inl ed_13)), (hnd, .inl (cI, 16, .inl nd_13))] := hD
                                refine lv_iload_n hx hb d_Mo_seal_128 rfl (lv_at hl 1 rfl) ?_
                                refine lv_iconst (v := (nI 2)) hx hb d_Mo_seal_129 (by decide) ?_
                                refine lv_idiv hx hb d_Mo_seal_130 (by decide) ?_
                                refine tp (pk_div (by omega) (by decide) (by decide)) ?_
                                refine lv_istore_n (lv' := [(3, .int (nI (((8 + q) / 2) / 2))), (4, .int (nI 12)), (0, .ref hm), (1, .int (nI b)), (2, .int (nI q))]) hx hb d_Mo_seal_131 rfl hl (by decide) rfl (fun ls hl => ?_)
                                refine lv_iinc (k := 1) (v := (nI 13)) (lv' := [(4, .int (nI 13)), (3, .int (nI (((8 + q) / 2) / 2))), (0, .ref hm), (1, .int (nI b)), (2, .int (nI q))]) hx hb d_Mo_seal_132 hl rfl (by decide) (by decide) rfl (fun ls hl => ?_)
                                refine lv_goto (tgt := 92) hx hb d_Mo_seal_135 (by decide) ?_
                                refine lv_iload hx hb d_Mo_seal_92 (lv_at hl 0 rfl) ?_
                                refine lv_bipush (v := (nI 14)) hx hb d_Mo_seal_94 (by decide) ?_
                                refine nb_ge (tgt := 138) hx hb d_Mo_seal_96 (by decide) (by decide) (by decide) (fun h_32 => ?_) (fun h_32 => ?_)
                                · exact absurd h_32 (by decide)
                                · refine lv_aload_n hx hb d_Mo_seal_99 rfl (lv_at hl 2 rfl) ?_
                                  refine va_get (D := (dC, dI)) (ci := 3) (v := .ref hw) (C := R_Mo) (T := F_Mo) (N := 15) hx hb hts in_Mo hown hK hP 0 rfl rfl 1 (by decide) (hts _ kw_440) (fun _ h9 => h9) rfl d_Mo_seal_100 ?_
                                  refine lv_iload_n hx hb d_Mo_seal_103 rfl (lv_at hl 3 rfl) ?_
                                  refine lv_iload hx hb d_Mo_seal_104 (lv_at hl 0 rfl) ?_
                                  refine lv_iadd hx hb d_Mo_seal_106 ?_
                                  refine tp (nI_add _ _) ?_
                                  refine lv_aload_n hx hb d_Mo_seal_107 rfl (lv_at hl 2 rfl) ?_
                                  refine va_get (D := (dC, dI)) (ci := 3) (v := .ref hnd) (C := R_Mo) (T := F_Mo) (N := 15) hx hb hts in_Mo hown hK hP 0 rfl rfl 14 (by decide) (hts _ kw_453) (fun _ h9 => h9) rfl d_Mo_seal_108 ?_
                                  refine lv_iload_n hx hb d_Mo_seal_111 rfl (lv_at hl 1 rfl) ?_
                                  refine lv_iconst (v := (nI 2)) hx hb d_Mo_seal_112 (by decide) ?_
                                  refine lv_irem hx hb d_Mo_seal_113 (by decide) ?_
                                  refine tp (pk_rem (by omega) (by decide) (by decide)) ?_
                                  refine nz_ne (tgt := 123) hx hb d_Mo_seal_114 (by decide) (by omega) (fun h_33 => ?_) (fun h_33 => ?_)
                                  · refine lv_iload_n hx hb d_Mo_seal_123 rfl (lv_at hl 1 rfl) ?_
                                    refine lv_iconst (v := (nI 1)) hx hb d_Mo_seal_124 (by decide) ?_
                                    refine lv_isub hx hb d_Mo_seal_125 ?_
                                    refine tp (pk_sub (by omega)) ?_
                                    refine ar_ld (k := (((8 + q) / 2) / 2) - 1) hx hb hK hP 4 0 rfl rfl (by omega) (by first | decide | omega) d_Mo_seal_126 ?_
                                    refine tp (y := ndV sc (sib (((8 + q) / 2) / 2))) (by rw [hnd9 _ (by omega) (by omega), sib, if_neg h_33]) ?_
                                    refine ar_st (k := b + 13) hx hb hK hP hD hS 1 0 rfl rfl (by omega) (by first | decide | omega) d_Mo_seal_127 (fun H locs hP hD hS => ?_)
                                    have hP : va_P (dC, dI) classes [(hm, .inr (3, [.int sc, .ref hw, .int (nI cn), .int (nI fu), .int lf, .int (bI dd), .int dn, .int rn, .int (bI tr), .int (nI lg), .ref he, .int me, .ref hd, .ref hen, .ref hnd])), (hw, .inl (cI, 160, .inl (upd (upd (upd M2 (b + 11) (ndV sc (sib (8 + q)))) (b + 12) (ndV sc (sib ((8 + q) / 2)))) (b + 13) (ndV sc (sib (((8 + q) / 2) / 2)))))), (hd, .inl (cI, 6, .inl dg_5)), (hen, .inl (cI, 6, .inl ed_13)), (hnd, .inl (cI, 16, .inl nd_13))] H := hP
                                    have hD : va_D A [(hm, .inr (3, [.int sc, .ref hw, .int (nI cn), .int (nI fu), .int lf, .int (bI dd), .int dn, .int rn, .int (bI tr), .int (nI lg), .ref he, .int me, .ref hd, .ref hen, .ref hnd])), (hw, .inl (cI, 160, .inl (upd (upd (upd M2 (b + 11) (ndV sc (sib (8 + q)))) (b + 12) (ndV sc (sib ((8 + q) / 2)))) (b + 13) (ndV sc (sib (((8 + q) / 2) / 2)))))), (hd, .inl (cI, 6, .inl dg_5)), (hen, .inl (cI, 6, .inl ed_13)), (hnd, .inl (cI, 16, .inl nd_13))] := hD
                                    refine lv_iload_n hx hb d_Mo_seal_128 rfl (lv_at hl 1 rfl) ?_
                                    refine lv_iconst (v := (nI 2)) hx hb d_Mo_seal_129 (by decide) ?_
                                    refine lv_idiv hx hb d_Mo_seal_130 (by decide) ?_
                                    refine tp (pk_div (by omega) (by decide) (by decide)) ?_
                                    refine lv_istore_n (lv' := [(3, .int (nI ((((8 + q) / 2) / 2) / 2))), (4, .int (nI 13)), (0, .ref hm), (1, .int (nI b)), (2, .int (nI q))]) hx hb d_Mo_seal_131 rfl hl (by decide) rfl (fun ls hl => ?_)
                                    refine lv_iinc (k := 1) (v := (nI 14)) (lv' := [(4, .int (nI 14)), (3, .int (nI ((((8 + q) / 2) / 2) / 2))), (0, .ref hm), (1, .int (nI b)), (2, .int (nI q))]) hx hb d_Mo_seal_132 hl rfl (by decide) (by decide) rfl (fun ls hl => ?_)
                                    refine lv_goto (tgt := 92) hx hb d_Mo_seal_135 (by decide) ?_
                                    refine lv_iload hx hb d_Mo_seal_92 (lv_at hl 0 rfl) ?_
                                    refine lv_bipush (v := (nI 14)) hx hb d_Mo_seal_94 (by decide) ?_
                                    refine nb_ge (tgt := 138) hx hb d_Mo_seal_96 (by decide) (by decide) (by decide) (fun h_34 => ?_) (fun h_34 => ?_)
                                    · exact W.vret hx hb hr (fun t ht hW => ⟨⟨(upd (upd (upd M2 (b + 11) (ndV sc (sib (8 + q)))) (b + 12) (ndV sc (sib ((8 + q) / 2)))) (b + 13) (ndV sc (sib (((8 + q) / 2) / 2))), dg_5, ed_13, nd_13), rfl, (by subst eM2; subst eM1; rfl), by rw [ht]; exact hP, hD⟩, hS.F ht⟩) hS.2.2 d_Mo_seal_138
                                    · exact absurd h_34 (by decide)
                                  · refine lv_iload_n hx hb d_Mo_seal_117 rfl (lv_at hl 1 rfl) ?_
                                    refine lv_iconst (v := (nI 1)) hx hb d_Mo_seal_118 (by decide) ?_
                                    refine lv_iadd hx hb d_Mo_seal_119 ?_
                                    refine tp (nI_add _ _) ?_
                                    refine lv_goto (tgt := 126) hx hb d_Mo_seal_120 (by decide) ?_
                                    refine ar_ld (k := (((8 + q) / 2) / 2) + 1) hx hb hK hP 4 0 rfl rfl (by omega) (by first | decide | omega) d_Mo_seal_126 ?_
                                    refine tp (y := ndV sc (sib (((8 + q) / 2) / 2))) (by rw [hnd9 _ (by omega) (by omega), sib, if_pos h_33]) ?_
                                    refine ar_st (k := b + 13) hx hb hK hP hD hS 1 0 rfl rfl (by omega) (by first | decide | omega) d_Mo_seal_127 (fun H locs hP hD hS => ?_)
                                    have hP : va_P (dC, dI) classes [(hm, .inr (3, [.int sc, .ref hw, .int (nI cn), .int (nI fu), .int lf, .int (bI dd), .int dn, .int rn, .int (bI tr), .int (nI lg), .ref he, .int me, .ref hd, .ref hen, .ref hnd])), (hw, .inl (cI, 160, .inl (upd (upd (upd M2 (b + 11) (ndV sc (sib (8 + q)))) (b + 12) (ndV sc (sib ((8 + q) / 2)))) (b + 13) (ndV sc (sib (((8 + q) / 2) / 2)))))), (hd, .inl (cI, 6, .inl dg_5)), (hen, .inl (cI, 6, .inl ed_13)), (hnd, .inl (cI, 16, .inl nd_13))] H := hP
                                    have hD : va_D A [(hm, .inr (3, [.int sc, .ref hw, .int (nI cn), .int (nI fu), .int lf, .int (bI dd), .int dn, .int rn, .int (bI tr), .int (nI lg), .ref he, .int me, .ref hd, .ref hen, .ref hnd])), (hw, .inl (cI, 160, .inl (upd (upd (upd M2 (b + 11) (ndV sc (sib (8 + q)))) (b + 12) (ndV sc (sib ((8 + q) / 2)))) (b + 13) (ndV sc (sib (((8 + q) / 2) / 2)))))), (hd, .inl (cI, 6, .inl dg_5)), (hen, .inl (cI, 6, .inl ed_13)), (hnd, .inl (cI, 16, .inl nd_13))] := hD
                                    refine lv_iload_n hx hb d_Mo_seal_128 rfl (lv_at hl 1 rfl) ?_
                                    refine lv_iconst (v := (nI 2)) hx hb d_Mo_seal_129 (by decide) ?_
                                    refine lv_idiv hx hb d_Mo_seal_130 (by decide) ?_
                                    refine tp (pk_div (by omega) (by decide) (by decide)) ?_
                                    refine lv_istore_n (lv' := [(3, .int (nI ((((8 + q) / 2) / 2) / 2))), (4, .int (nI 13)), (0, .ref hm), (1, .int (nI b)), (2, .int (nI q))]) hx hb d_Mo_seal_131 rfl hl (by decide) rfl (fun ls hl => ?_)
                                    refine lv_iinc (k := 1) (v := (nI 14)) (lv' := [(4, .int (nI 14)), (3, .int (nI ((((8 + q) / 2) / 2) / 2))), (0, .ref hm), (1, .int (nI b)), (2, .int (nI q))]) hx hb d_Mo_seal_132 hl rfl (by decide) (by decide) rfl (fun ls hl => ?_)
                                    refine lv_goto (tgt := 92) hx hb d_Mo_seal_135 (by decide) ?_
                                    refine lv_iload hx hb d_Mo_seal_92 (lv_at hl 0 rfl) ?_
                                    refine lv_bipush (v := (nI 14)) hx hb d_Mo_seal_94 (by decide) ?_
                                    refine nb_ge (tgt := 138) hx hb d_Mo_seal_96 (by decide) (by decide) (by decide) (fun h_35 => ?_) (fun h_35 => ?_)
                                    · exact W.vret hx hb hr (fun t ht hW => ⟨⟨(upd (upd (upd M2 (b + 11) (ndV sc (sib (8 + q)))) (b + 12) (ndV sc (sib ((8 + q) / 2)))) (b + 13) (ndV sc (sib (((8 + q) / 2) / 2))), dg_5, ed_13, nd_13), rfl, (by subst eM2; subst eM1; rfl), by rw [ht]; exact hP, hD⟩, hS.F ht⟩) hS.2.2 d_Mo_seal_138
                                    · exact absurd h_35 (by decide)
                      · exact absurd h_12 (by decide)
        · exact absurd h_4 (by decide)
set_option maxHeartbeats 4000000 in
set_option maxRecDepth 100000 in
theorem c_Mo_sign (l : Launch) (dC : Nat → ClassId) (dI : Nat → Nat → Nat) (cI : ClassId) (hm : Nat) (ve : Int32) (a0 : Int32) (a1 : Int32) (a2 : Int32) (sc : Int32) (hw : Nat) (cn : Nat) (fu : Nat) (lf : Int32) (dd : Bool) (dn : Int32) (rn : Int32) (tr : Bool) (lg : Nat) (he : Nat) (me : Int32) (hd : Nat) (hen : Nat) (hnd : Nat) (M : Nat → Int32) (dg : Nat → Int32) (ed : Nat → Int32) (nd : Nat → Int32) (hcn : cn ≤ 7) (sz : Nat) : Met l y_Mo_sign w_Mo_sign ({ frames := 5, cells := 0, slots := 0, locals := 117 }) (va_Pc [.ref hm, .int ve, .int a0, .int a1, .int a2] (fun U => U.heap.size = sz ∧ va_P (dC, dI) classes [(hm, .inr (3, [.int sc, .ref hw, .int (nI cn), .int (nI fu), .int lf, .int (bI dd), .int dn, .int rn, .int (bI tr), .int (nI lg), .ref he, .int me, .ref hd, .ref hen, .ref hnd])), (hw, .inl (cI, 160, .inl M)), (hd, .inl (cI, 6, .inl dg)), (hen, .inl (cI, 6, .inl ed)), (hnd, .inl (cI, 16, .inl nd))] U.heap ∧ KN dC dI cI U ∧ va_D (fun _ => True) [(hm, .inr (3, [.int sc, .ref hw, .int (nI cn), .int (nI fu), .int lf, .int (bI dd), .int dn, .int rn, .int (bI tr), .int (nI lg), .ref he, .int me, .ref hd, .ref hen, .ref hnd])), (hw, .inl (cI, 160, .inl M)), (hd, .inl (cI, 6, .inl dg)), (hen, .inl (cI, 6, .inl ed)), (hnd, .inl (cI, 16, .inl nd))])) (va_Qi (fun (r : Int32) (u : Nat × (Nat → Int32) × (Nat → Int32) × (Nat → Int32) × (Nat → Int32)) => moSign sc cn ve a0 a1 a2 M = (r, u.1, u.2.1)) (fun (u : Nat × (Nat → Int32) × (Nat → Int32) × (Nat → Int32) × (Nat → Int32)) t => va_P (dC, dI) classes [(hm, .inr (3, [.int sc, .ref hw, .int (nI u.1), .int (nI fu), .int lf, .int (bI dd), .int dn, .int rn, .int (bI tr), .int (nI lg), .ref he, .int me, .ref hd, .ref hen, .ref hnd])), (hw, .inl (cI, 160, .inl u.2.1)), (hd, .inl (cI, 6, .inl u.2.2.1)), (hen, .inl (cI, 6, .inl u.2.2.2.1)), (hnd, .inl (cI, 16, .inl u.2.2.2.2))] t.heap ∧ va_D (va_A [(hm, .inr (3, [.int sc, .ref hw, .int (nI cn), .int (nI fu), .int lf, .int (bI dd), .int dn, .int rn, .int (bI tr), .int (nI lg), .ref he, .int me, .ref hd, .ref hen, .ref hnd])), (hw, .inl (cI, 160, .inl M)), (hd, .inl (cI, 6, .inl dg)), (hen, .inl (cI, 6, .inl ed)), (hnd, .inl (cI, 16, .inl nd))] sz) [(hm, .inr (3, [.int sc, .ref hw, .int (nI u.1), .int (nI fu), .int lf, .int (bI dd), .int dn, .int rn, .int (bI tr), .int (nI lg), .ref he, .int me, .ref hd, .ref hen, .ref hnd])), (hw, .inl (cI, 160, .inl u.2.1)), (hd, .inl (cI, 6, .inl u.2.2.1)), (hen, .inl (cI, 6, .inl u.2.2.2.1)), (hnd, .inl (cI, 16, .inl u.2.2.2.2))]) (va_A [(hm, .inr (3, [.int sc, .ref hw, .int (nI cn), .int (nI fu), .int lf, .int (bI dd), .int dn, .int rn, .int (bI tr), .int (nI lg), .ref he, .int me, .ref hd, .ref hen, .ref hnd])), (hw, .inl (cI, 160, .inl M)), (hd, .inl (cI, 6, .inl dg)), (hen, .inl (cI, 6, .inl ed)), (hnd, .inl (cI, 16, .inl nd))] sz)) 0 0 (va_A [(hm, .inr (3, [.int sc, .ref hw, .int (nI cn), .int (nI fu), .int lf, .int (bI dd), .int dn, .int rn, .int (bI tr), .int (nI lg), .ref he, .int me, .ref hd, .ref hen, .ref hnd])), (hw, .inl (cI, 160, .inl M)), (hd, .inl (cI, 6, .inl dg)), (hen, .inl (cI, 6, .inl ed)), (hnd, .inl (cI, 16, .inl nd))] sz) := by
  refine Met.ofW (cc := b_Mo_sign) (maxL := 6) (ret := (some .int)) (by decide) rfl ?_
  intro p e s m args below meth c s₁ B hml hv
  obtain ⟨rfl, hsz, hP, hKN, hD0⟩ := hv
  have hK := hKN.1
  have hx := B.exec
  have hb := B.bytes
  have hr := B.returns
  have hts := fun (w : Cond) (h : w ∈ gt) => atoms_spec (ws := w_Mo_sign) B.pre w (List.mem_cons_of_mem _ h)
  have hown : s.vm.findClass R_Mo = some m.cls := findClass_of_methodNamed B.named
  have hlocks := B.notSynchronized
  subst hsz
  have hD := hD0.self (sz := s.heap.size)
  generalize hAe : va_A [(hm, .inr (3, [.int sc, .ref hw, .int (nI cn), .int (nI fu), .int lf, .int (bI dd), .int dn, .int rn, .int (bI tr), .int (nI lg), .ref he, .int me, .ref hd, .ref hen, .ref hnd])), (hw, .inl (cI, 160, .inl M)), (hd, .inl (cI, 6, .inl dg)), (hen, .inl (cI, 6, .inl ed)), (hnd, .inl (cI, 16, .inl nd))] s.heap.size = A at hD ⊢
  have hA : ∀ q : Nat, s.heap.size ≤ q → A q := fun q h => by rw [← hAe]; exact Or.inr h
  have hS : va_S A s.heap s.heap [] := va_S.rf
  have hP : va_P (dC, dI) classes [(hm, .inr (3, [.int sc, .ref hw, .int (nI cn), .int (nI fu), .int lf, .int (bI dd), .int dn, .int rn, .int (bI tr), .int (nI lg), .ref he, .int me, .ref hd, .ref hen, .ref hnd])), (hw, .inl (cI, 160, .inl M)), (hd, .inl (cI, 6, .inl dg)), (hen, .inl (cI, 6, .inl ed)), (hnd, .inl (cI, 16, .inl nd))] s.heap := hP
  clear hAe hD0
  have hl := lv_entry ([.ref hm, .int ve, .int a0, .int a1, .int a2]) (n := 6) (Nat.le_of_ble_eq_true rfl)
  rw [lg_entry_eq]
  generalize (lg_sl ([.ref hm, .int ve, .int a0, .int a1, .int a2]) ++ List.replicate (6 - (lg_sl ([.ref hm, .int ve, .int a0, .int a1, .int a2])).length) Slot.unset).toArray = ls at hl ⊢
  have hl : lv_has ls 6 [(0, .ref hm), (1, .int ve), (2, .int a0), (3, .int a1), (4, .int a2)] := hl
  refine lv_iload_n hx hb d_Mo_sign_0 rfl (lv_at hl 1 rfl) ?_
  refine lv_iconst (v := (nI 1)) hx hb d_Mo_sign_1 (by decide) ?_
  refine lv_icmp_lt (tgt := 20) hx hb d_Mo_sign_2 (by decide) (fun h_1 => ?_) (fun h_1 => ?_)
  · refine lv_iconst (v := (-1)) hx hb d_Mo_sign_20 (by decide) ?_
    exact W.iret (v := (-1)) hx hb hr (fun t ht hW => ⟨⟨(-1), (cn, M, dg, ed, nd), rfl, (by simp only [moSign, if_pos h_1]), by rw [ht]; exact hP, hD⟩, hS.F ht⟩) hS.2.2 d_Mo_sign_21
  · refine lv_iload_n hx hb d_Mo_sign_5 rfl (lv_at hl 1 rfl) ?_
    refine lv_bipush (v := (nI 32)) hx hb d_Mo_sign_6 (by decide) ?_
    refine lv_icmp_gt (tgt := 20) hx hb d_Mo_sign_8 (by decide) (fun h_2 => ?_) (fun h_2 => ?_)
    · refine lv_iconst (v := (-1)) hx hb d_Mo_sign_20 (by decide) ?_
      exact W.iret (v := (-1)) hx hb hr (fun t ht hW => ⟨⟨(-1), (cn, M, dg, ed, nd), rfl, (by simp only [moSign, if_neg h_1, if_pos h_2]), by rw [ht]; exact hP, hD⟩, hS.F ht⟩) hS.2.2 d_Mo_sign_21
    · refine lv_aload_n hx hb d_Mo_sign_11 rfl (lv_at hl 0 rfl) ?_
      refine va_get (D := (dC, dI)) (ci := 3) (v := .int (nI cn)) (C := R_Mo) (T := F_Mo) (N := 15) hx hb hts in_Mo hown hK hP 0 rfl rfl 2 (by decide) (hts _ kw_441) (fun _ h9 => h9) rfl d_Mo_sign_12 ?_
      refine lv_bipush (v := (nI 7)) hx hb d_Mo_sign_15 (by decide) ?_
      refine nb_ne (tgt := 22) hx hb d_Mo_sign_17 (by decide) (by first | omega | exact Nat.lt_of_lt_of_le (stt_lt _ _) (by decide)) (by first | omega | exact Nat.lt_of_lt_of_le (stt_lt _ _) (by decide)) (fun h_3 => ?_) (fun h_3 => ?_)
      · refine lv_bipush (v := (nI 40)) hx hb d_Mo_sign_22 (by decide) ?_
        refine lv_bipush (v := (nI 17)) hx hb d_Mo_sign_24 (by decide) ?_
        refine lv_aload_n hx hb d_Mo_sign_26 rfl (lv_at hl 0 rfl) ?_
        refine va_get (D := (dC, dI)) (ci := 3) (v := .int (nI cn)) (C := R_Mo) (T := F_Mo) (N := 15) hx hb hts in_Mo hown hK hP 0 rfl rfl 2 (by decide) (hts _ kw_441) (fun _ h9 => h9) rfl d_Mo_sign_27 ?_
        refine lv_imul hx hb d_Mo_sign_30 ?_
        refine tp (pk_mul _ _) ?_
        refine lv_iadd hx hb d_Mo_sign_31 ?_
        refine tp (nI_add _ _) ?_
        refine lv_istore (lv' := [(5, .int (nI (40 + (17 * cn)))), (0, .ref hm), (1, .int ve), (2, .int a0), (3, .int a1), (4, .int a2)]) hx hb d_Mo_sign_32 hl (by decide) rfl (fun ls hl => ?_)
        refine lv_aload_n hx hb d_Mo_sign_34 rfl (lv_at hl 1 rfl) ?_
        refine lv_dup hx hb d_Mo_sign_35 rfl ?_
        refine va_get (D := (dC, dI)) (ci := 3) (v := .int (nI cn)) (C := R_Mo) (T := F_Mo) (N := 15) hx hb hts in_Mo hown hK hP 0 rfl rfl 2 (by decide) (hts _ kw_441) (fun _ h9 => h9) rfl d_Mo_sign_36 ?_
        refine lv_iconst (v := (nI 1)) hx hb d_Mo_sign_39 (by decide) ?_
        refine lv_iadd hx hb d_Mo_sign_40 ?_
        refine tp (nI_add _ _) ?_
        refine va_put (D := (dC, dI)) (ci := 3) (v := .int (nI (cn + 1))) (ty := .int) (C := R_Mo) (T := F_Mo) (N := 15) hx hb hts in_Mo t_Mo t_Mo_ok n_Mo hown hK hP hD hS 0 rfl rfl 2 (by decide) (hts _ kw_441) (fun _ h9 => h9) rfl (by decide +kernel) rfl rfl (Nat.le_of_ble_eq_true rfl) d_Mo_sign_41 (fun H locs hP hD hS => ?_)
        have hP : va_P (dC, dI) classes [(hm, .inr (3, [.int sc, .ref hw, .int (nI (cn + 1)), .int (nI fu), .int lf, .int (bI dd), .int dn, .int rn, .int (bI tr), .int (nI lg), .ref he, .int me, .ref hd, .ref hen, .ref hnd])), (hw, .inl (cI, 160, .inl M)), (hd, .inl (cI, 6, .inl dg)), (hen, .inl (cI, 6, .inl ed)), (hnd, .inl (cI, 16, .inl nd))] H := hP
        have hD : va_D A [(hm, .inr (3, [.int sc, .ref hw, .int (nI (cn + 1)), .int (nI fu), .int lf, .int (bI dd), .int dn, .int rn, .int (bI tr), .int (nI lg), .ref he, .int me, .ref hd, .ref hen, .ref hnd])), (hw, .inl (cI, 160, .inl M)), (hd, .inl (cI, 6, .inl dg)), (hen, .inl (cI, 6, .inl ed)), (hnd, .inl (cI, 16, .inl nd))] := hD
        refine lv_aload_n hx hb d_Mo_sign_44 rfl (lv_at hl 1 rfl) ?_
        refine lv_iload hx hb d_Mo_sign_45 (lv_at hl 0 rfl) ?_
        refine lv_aload_n hx hb d_Mo_sign_47 rfl (lv_at hl 1 rfl) ?_
        refine va_get (D := (dC, dI)) (ci := 3) (v := .int (nI (cn + 1))) (C := R_Mo) (T := F_Mo) (N := 15) hx hb hts in_Mo hown hK hP 0 rfl rfl 2 (by decide) (hts _ kw_441) (fun _ h9 => h9) rfl d_Mo_sign_48 ?_
        refine lv_iload_n hx hb d_Mo_sign_51 rfl (lv_at hl 2 rfl) ?_
        refine lv_iload_n hx hb d_Mo_sign_52 rfl (lv_at hl 3 rfl) ?_
        have hPc := hP.sub (ws' := [(hm, .inr (3, [.int sc, .ref hw, .int (nI (cn + 1)), .int (nI fu), .int lf, .int (bI dd), .int dn, .int rn, .int (bI tr), .int (nI lg), .ref he, .int me, .ref hd, .ref hen, .ref hnd])), (hw, .inl (cI, 160, .inl M))]) [0, 1] rfl
        have hDc := hD.sub (ws' := [(hm, .inr (3, [.int sc, .ref hw, .int (nI (cn + 1)), .int (nI fu), .int lf, .int (bI dd), .int dn, .int rn, .int (bI tr), .int (nI lg), .ref he, .int me, .ref hd, .ref hen, .ref hnd])), (hw, .inl (cI, 160, .inl M))]) [0, 1] (by decide) rfl
        have hFc := va_free (wc := [(hm, .inr (3, [.int sc, .ref hw, .int (nI (cn + 1)), .int (nI fu), .int lf, .int (bI dd), .int dn, .int rn, .int (bI tr), .int (nI lg), .ref he, .int me, .ref hd, .ref hen, .ref hnd])), (hw, .inl (cI, 160, .inl M))]) hD hS hA [0, 1] rfl
        refine va_callv (va_runV (As := [.int (nI (40 + (17 * cn))), .int (nI (cn + 1)), .int ve, .int a0]) (rest := []) ⟨hx, hb, hml, hown, hts⟩ (c_Mo_pack l dC dI cI (hm := hm) (b := 40 + (17 * cn)) (q := cn + 1) (ve := ve) (x := a0) (sc := sc) (hw := hw) (cn := cn + 1) (fu := fu) (lf := lf) (dd := dd) (dn := dn) (rn := rn) (tr := tr) (lg := lg) (he := he) (me := me) (hd := hd) (hen := hen) (hnd := hnd) (M := M) (hb160 := (by omega)) (sz := H.size)) ⟨callB_of 4 hts (gd kw_404) rfl rfl rfl (hts _ kw_41) (hts _ kw_401) (by decide +kernel) ⟨Nat.le_of_ble_eq_true rfl, Nat.le_of_ble_eq_true rfl⟩, (hts _ kw_403), (hts _ kw_16)⟩ ⟨fun a U g mk q => by obtain ⟨q0, q1, qP, qK, qD⟩ := q; exact ⟨q0, q1, qP, qK.call, qD⟩, va_recv hK hP (ci := 3) rfl (q0 := 0) rfl, fun U hU hW => ⟨rfl, by rw [hU], by rw [hU]; exact hPc, hKN.warm hW, hDc.weaken (fun _ _ _ _ => trivial)⟩⟩ rfl rfl hl.1 rfl (lv_room (Nat.le_of_ble_eq_true rfl)) d_Mo_sign_53 ⟨Nat.zero_le _, Nat.zero_le _⟩) hS (fun q _ h => hFc q h) hFc (fun u t H1 locs zt zvm zw zB zz zk hS => ?_)
        obtain ⟨M_4, rfl⟩ : ∃ z, z = u := ⟨_, rfl⟩
        have hu_4 := zw
        obtain ⟨hP1, hD1⟩ := zB
        rw [zt] at hP1
        have hP1 : va_P (dC, dI) classes [(hm, .inr (3, [.int sc, .ref hw, .int (nI (cn + 1)), .int (nI fu), .int lf, .int (bI dd), .int dn, .int rn, .int (bI tr), .int (nI lg), .ref he, .int me, .ref hd, .ref hen, .ref hnd])), (hw, .inl (cI, 160, .inl M_4))] H1 := hP1
        obtain ⟨hP, hD⟩ := va_join (wc := [(hm, .inr (3, [.int sc, .ref hw, .int (nI (cn + 1)), .int (nI fu), .int lf, .int (bI dd), .int dn, .int rn, .int (bI tr), .int (nI lg), .ref he, .int me, .ref hd, .ref hen, .ref hnd])), (hw, .inl (cI, 160, .inl M))]) (wr := [(hd, .inl (cI, 6, .inl dg)), (hen, .inl (cI, 6, .inl ed)), (hnd, .inl (cI, 16, .inl nd))]) (w1 := [(hm, .inr (3, [.int sc, .ref hw, .int (nI (cn + 1)), .int (nI fu), .int lf, .int (bI dd), .int dn, .int rn, .int (bI tr), .int (nI lg), .ref he, .int me, .ref hd, .ref hen, .ref hnd])), (hw, .inl (cI, 160, .inl M_4))]) hP hD [0, 1] [2, 3, 4] rfl rfl (by decide) (by decide) zk hFc hP1 hD1
        generalize H1 = H at hP hS ⊢
        have hP : va_P (dC, dI) classes [(hm, .inr (3, [.int sc, .ref hw, .int (nI (cn + 1)), .int (nI fu), .int lf, .int (bI dd), .int dn, .int rn, .int (bI tr), .int (nI lg), .ref he, .int me, .ref hd, .ref hen, .ref hnd])), (hw, .inl (cI, 160, .inl M_4)), (hd, .inl (cI, 6, .inl dg)), (hen, .inl (cI, 6, .inl ed)), (hnd, .inl (cI, 16, .inl nd))] H := hP.sub [3, 4, 0, 1, 2] rfl
        have hD : va_D A [(hm, .inr (3, [.int sc, .ref hw, .int (nI (cn + 1)), .int (nI fu), .int lf, .int (bI dd), .int dn, .int rn, .int (bI tr), .int (nI lg), .ref he, .int me, .ref hd, .ref hen, .ref hnd])), (hw, .inl (cI, 160, .inl M_4)), (hd, .inl (cI, 6, .inl dg)), (hen, .inl (cI, 6, .inl ed)), (hnd, .inl (cI, 16, .inl nd))] := hD.sub [3, 4, 0, 1, 2] (by decide) rfl
        clear hPc hDc hFc hP1 hD1 zk zz zvm zt
        refine lv_aload_n hx hb d_Mo_sign_56 rfl (lv_at hl 1 rfl) ?_
        refine va_get (D := (dC, dI)) (ci := 3) (v := .ref hw) (C := R_Mo) (T := F_Mo) (N := 15) hx hb hts in_Mo hown hK hP 0 rfl rfl 1 (by decide) (hts _ kw_440) (fun _ h9 => h9) rfl d_Mo_sign_57 ?_
        refine lv_iload hx hb d_Mo_sign_60 (lv_at hl 0 rfl) ?_
        refine lv_bipush (v := (nI 15)) hx hb d_Mo_sign_62 (by decide) ?_
        refine lv_iadd hx hb d_Mo_sign_64 ?_
        refine tp (nI_add _ _) ?_
        refine lv_iload_n hx hb d_Mo_sign_65 rfl (lv_at hl 4 rfl) ?_
        refine ar_st (k := (40 + (17 * cn)) + 15) hx hb hK hP hD hS 1 0 rfl rfl (by omega) (by first | decide | omega) d_Mo_sign_66 (fun H locs hP hD hS => ?_)
        have hP : va_P (dC, dI) classes [(hm, .inr (3, [.int sc, .ref hw, .int (nI (cn + 1)), .int (nI fu), .int lf, .int (bI dd), .int dn, .int rn, .int (bI tr), .int (nI lg), .ref he, .int me, .ref hd, .ref hen, .ref hnd])), (hw, .inl (cI, 160, .inl (upd M_4 ((40 + (17 * cn)) + 15) a1))), (hd, .inl (cI, 6, .inl dg)), (hen, .inl (cI, 6, .inl ed)), (hnd, .inl (cI, 16, .inl nd))] H := hP
        have hD : va_D A [(hm, .inr (3, [.int sc, .ref hw, .int (nI (cn + 1)), .int (nI fu), .int lf, .int (bI dd), .int dn, .int rn, .int (bI tr), .int (nI lg), .ref he, .int me, .ref hd, .ref hen, .ref hnd])), (hw, .inl (cI, 160, .inl (upd M_4 ((40 + (17 * cn)) + 15) a1))), (hd, .inl (cI, 6, .inl dg)), (hen, .inl (cI, 6, .inl ed)), (hnd, .inl (cI, 16, .inl nd))] := hD
        refine lv_aload_n hx hb d_Mo_sign_67 rfl (lv_at hl 1 rfl) ?_
        refine va_get (D := (dC, dI)) (ci := 3) (v := .ref hw) (C := R_Mo) (T := F_Mo) (N := 15) hx hb hts in_Mo hown hK hP 0 rfl rfl 1 (by decide) (hts _ kw_440) (fun _ h9 => h9) rfl d_Mo_sign_68 ?_
        refine lv_iload hx hb d_Mo_sign_71 (lv_at hl 0 rfl) ?_
        refine lv_bipush (v := (nI 16)) hx hb d_Mo_sign_73 (by decide) ?_
        refine lv_iadd hx hb d_Mo_sign_75 ?_
        refine tp (nI_add _ _) ?_
        refine lv_iload hx hb d_Mo_sign_76 (lv_at hl 5 rfl) ?_
        refine ar_st (k := (40 + (17 * cn)) + 16) hx hb hK hP hD hS 1 0 rfl rfl (by omega) (by first | decide | omega) d_Mo_sign_78 (fun H locs hP hD hS => ?_)
        have hP : va_P (dC, dI) classes [(hm, .inr (3, [.int sc, .ref hw, .int (nI (cn + 1)), .int (nI fu), .int lf, .int (bI dd), .int dn, .int rn, .int (bI tr), .int (nI lg), .ref he, .int me, .ref hd, .ref hen, .ref hnd])), (hw, .inl (cI, 160, .inl (upd (upd M_4 ((40 + (17 * cn)) + 15) a1) ((40 + (17 * cn)) + 16) a2))), (hd, .inl (cI, 6, .inl dg)), (hen, .inl (cI, 6, .inl ed)), (hnd, .inl (cI, 16, .inl nd))] H := hP
        have hD : va_D A [(hm, .inr (3, [.int sc, .ref hw, .int (nI (cn + 1)), .int (nI fu), .int lf, .int (bI dd), .int dn, .int rn, .int (bI tr), .int (nI lg), .ref he, .int me, .ref hd, .ref hen, .ref hnd])), (hw, .inl (cI, 160, .inl (upd (upd M_4 ((40 + (17 * cn)) + 15) a1) ((40 + (17 * cn)) + 16) a2))), (hd, .inl (cI, 6, .inl dg)), (hen, .inl (cI, 6, .inl ed)), (hnd, .inl (cI, 16, .inl nd))] := hD
        refine lv_aload_n hx hb d_Mo_sign_79 rfl (lv_at hl 1 rfl) ?_
        refine lv_iload hx hb d_Mo_sign_80 (lv_at hl 0 rfl) ?_
        refine lv_aload_n hx hb d_Mo_sign_82 rfl (lv_at hl 1 rfl) ?_
        refine va_get (D := (dC, dI)) (ci := 3) (v := .int (nI (cn + 1))) (C := R_Mo) (T := F_Mo) (N := 15) hx hb hts in_Mo hown hK hP 0 rfl rfl 2 (by decide) (hts _ kw_441) (fun _ h9 => h9) rfl d_Mo_sign_83 ?_
        have hPc := hP.sub (ws' := [(hm, .inr (3, [.int sc, .ref hw, .int (nI (cn + 1)), .int (nI fu), .int lf, .int (bI dd), .int dn, .int rn, .int (bI tr), .int (nI lg), .ref he, .int me, .ref hd, .ref hen, .ref hnd])), (hw, .inl (cI, 160, .inl (upd (upd M_4 ((40 + (17 * cn)) + 15) a1) ((40 + (17 * cn)) + 16) a2))), (hd, .inl (cI, 6, .inl dg)), (hen, .inl (cI, 6, .inl ed)), (hnd, .inl (cI, 16, .inl nd))]) [0, 1, 2, 3, 4] rfl
        have hDc := hD.sub (ws' := [(hm, .inr (3, [.int sc, .ref hw, .int (nI (cn + 1)), .int (nI fu), .int lf, .int (bI dd), .int dn, .int rn, .int (bI tr), .int (nI lg), .ref he, .int me, .ref hd, .ref hen, .ref hnd])), (hw, .inl (cI, 160, .inl (upd (upd M_4 ((40 + (17 * cn)) + 15) a1) ((40 + (17 * cn)) + 16) a2))), (hd, .inl (cI, 6, .inl dg)), (hen, .inl (cI, 6, .inl ed)), (hnd, .inl (cI, 16, .inl nd))]) [0, 1, 2, 3, 4] (by decide) rfl
        have hFc := va_free (wc := [(hm, .inr (3, [.int sc, .ref hw, .int (nI (cn + 1)), .int (nI fu), .int lf, .int (bI dd), .int dn, .int rn, .int (bI tr), .int (nI lg), .ref he, .int me, .ref hd, .ref hen, .ref hnd])), (hw, .inl (cI, 160, .inl (upd (upd M_4 ((40 + (17 * cn)) + 15) a1) ((40 + (17 * cn)) + 16) a2))), (hd, .inl (cI, 6, .inl dg)), (hen, .inl (cI, 6, .inl ed)), (hnd, .inl (cI, 16, .inl nd))]) hD hS hA [0, 1, 2, 3, 4] rfl
        refine va_callv (va_runV (As := [.int (nI (40 + (17 * cn))), .int (nI (cn + 1))]) (rest := []) ⟨hx, hb, hml, hown, hts⟩ (c_Mo_seal l dC dI cI (hm := hm) (b := 40 + (17 * cn)) (q := cn + 1) (sc := sc) (hw := hw) (cn := cn + 1) (fu := fu) (lf := lf) (dd := dd) (dn := dn) (rn := rn) (tr := tr) (lg := lg) (he := he) (me := me) (hd := hd) (hen := hen) (hnd := hnd) (M := upd (upd M_4 ((40 + (17 * cn)) + 15) a1) ((40 + (17 * cn)) + 16) a2) (dg := dg) (ed := ed) (nd := nd) (hb160 := (by omega)) (hq8 := (by omega)) (sz := H.size)) ⟨callB_of 2 hts (gd kw_408) rfl rfl rfl (hts _ kw_41) (hts _ kw_405) (by decide +kernel) ⟨Nat.le_of_ble_eq_true rfl, Nat.le_of_ble_eq_true rfl⟩, (hts _ kw_407), (hts _ kw_17)⟩ ⟨fun a U g mk q => by obtain ⟨q0, q1, qP, qK, qD⟩ := q; exact ⟨q0, q1, qP, qK.call, qD⟩, va_recv hK hP (ci := 3) rfl (q0 := 0) rfl, fun U hU hW => ⟨rfl, by rw [hU], by rw [hU]; exact hPc, hKN.warm hW, hDc.weaken (fun _ _ _ _ => trivial)⟩⟩ rfl rfl hl.1 rfl (lv_room (Nat.le_of_ble_eq_true rfl)) d_Mo_sign_86 ⟨Nat.zero_le _, Nat.zero_le _⟩) hS (fun q _ h => hFc q h) hFc (fun u t H1 locs zt zvm zw zB zz zk hS => ?_)
        obtain ⟨M_5, dg_5, ed_5, nd_5⟩ := u
        have hu_5 := zw
        obtain ⟨hP1, hD1⟩ := zB
        rw [zt] at hP1
        have hP1 : va_P (dC, dI) classes [(hm, .inr (3, [.int sc, .ref hw, .int (nI (cn + 1)), .int (nI fu), .int lf, .int (bI dd), .int dn, .int rn, .int (bI tr), .int (nI lg), .ref he, .int me, .ref hd, .ref hen, .ref hnd])), (hw, .inl (cI, 160, .inl M_5)), (hd, .inl (cI, 6, .inl dg_5)), (hen, .inl (cI, 6, .inl ed_5)), (hnd, .inl (cI, 16, .inl nd_5))] H1 := hP1
        obtain ⟨hP, hD⟩ := va_join (wc := [(hm, .inr (3, [.int sc, .ref hw, .int (nI (cn + 1)), .int (nI fu), .int lf, .int (bI dd), .int dn, .int rn, .int (bI tr), .int (nI lg), .ref he, .int me, .ref hd, .ref hen, .ref hnd])), (hw, .inl (cI, 160, .inl (upd (upd M_4 ((40 + (17 * cn)) + 15) a1) ((40 + (17 * cn)) + 16) a2))), (hd, .inl (cI, 6, .inl dg)), (hen, .inl (cI, 6, .inl ed)), (hnd, .inl (cI, 16, .inl nd))]) (wr := []) (w1 := [(hm, .inr (3, [.int sc, .ref hw, .int (nI (cn + 1)), .int (nI fu), .int lf, .int (bI dd), .int dn, .int rn, .int (bI tr), .int (nI lg), .ref he, .int me, .ref hd, .ref hen, .ref hnd])), (hw, .inl (cI, 160, .inl M_5)), (hd, .inl (cI, 6, .inl dg_5)), (hen, .inl (cI, 6, .inl ed_5)), (hnd, .inl (cI, 16, .inl nd_5))]) hP hD [0, 1, 2, 3, 4] [] rfl rfl (by decide) (by decide) zk hFc hP1 hD1
        generalize H1 = H at hP hS ⊢
        have hP : va_P (dC, dI) classes [(hm, .inr (3, [.int sc, .ref hw, .int (nI (cn + 1)), .int (nI fu), .int lf, .int (bI dd), .int dn, .int rn, .int (bI tr), .int (nI lg), .ref he, .int me, .ref hd, .ref hen, .ref hnd])), (hw, .inl (cI, 160, .inl M_5)), (hd, .inl (cI, 6, .inl dg_5)), (hen, .inl (cI, 6, .inl ed_5)), (hnd, .inl (cI, 16, .inl nd_5))] H := hP.sub [0, 1, 2, 3, 4] rfl
        have hD : va_D A [(hm, .inr (3, [.int sc, .ref hw, .int (nI (cn + 1)), .int (nI fu), .int lf, .int (bI dd), .int dn, .int rn, .int (bI tr), .int (nI lg), .ref he, .int me, .ref hd, .ref hen, .ref hnd])), (hw, .inl (cI, 160, .inl M_5)), (hd, .inl (cI, 6, .inl dg_5)), (hen, .inl (cI, 6, .inl ed_5)), (hnd, .inl (cI, 16, .inl nd_5))] := hD.sub [0, 1, 2, 3, 4] (by decide) rfl
        clear hPc hDc hFc hP1 hD1 zk zz zvm zt
        refine lv_aload_n hx hb d_Mo_sign_89 rfl (lv_at hl 1 rfl) ?_
        refine va_get (D := (dC, dI)) (ci := 3) (v := .int (nI (cn + 1))) (C := R_Mo) (T := F_Mo) (N := 15) hx hb hts in_Mo hown hK hP 0 rfl rfl 2 (by decide) (hts _ kw_441) (fun _ h9 => h9) rfl d_Mo_sign_90 ?_
        refine lv_iconst (v := (nI 1)) hx hb d_Mo_sign_93 (by decide) ?_
        refine lv_isub hx hb d_Mo_sign_94 ?_
        refine tp (pk_sub (by omega)) ?_
        exact W.iret (v := (nI ((cn + 1) - 1))) hx hb hr (fun t ht hW => ⟨⟨(nI ((cn + 1) - 1)), (cn + 1, M_5, dg_5, ed_5, nd_5), rfl, (by simp only [moSign, if_neg h_1, if_neg h_2, if_neg h_3, hu_4, hu_5]), by rw [ht]; exact hP, hD⟩, hS.F ht⟩) hS.2.2 d_Mo_sign_95
      · refine lv_iconst (v := (-1)) hx hb d_Mo_sign_20 (by decide) ?_
        exact W.iret (v := (-1)) hx hb hr (fun t ht hW => ⟨⟨(-1), (cn, M, dg, ed, nd), rfl, (by simp only [moSign, if_neg h_1, if_neg h_2, if_pos h_3]), by rw [ht]; exact hP, hD⟩, hS.F ht⟩) hS.2.2 d_Mo_sign_21
set_option maxHeartbeats 4000000 in
set_option maxRecDepth 100000 in
theorem c_Mo_fault (l : Launch) (dC : Nat → ClassId) (dI : Nat → Nat → Nat) (cI : ClassId) (hm : Nat) (v : Int32) (sc : Int32) (hw : Nat) (cn : Nat) (fu : Nat) (lf : Int32) (dd : Bool) (dn : Int32) (rn : Int32) (tr : Bool) (lg : Nat) (he : Nat) (me : Int32) (hd : Nat) (hen : Nat) (hnd : Nat) (M : Nat → Int32) (dg : Nat → Int32) (ed : Nat → Int32) (nd : Nat → Int32) (hcn : cn ≤ 7) (sz : Nat) : Met l y_Mo_fault w_Mo_fault ({ frames := 6, cells := 0, slots := 0, locals := 140 }) (va_Pc [.ref hm, .int v] (fun U => U.heap.size = sz ∧ va_P (dC, dI) classes [(hm, .inr (3, [.int sc, .ref hw, .int (nI cn), .int (nI fu), .int lf, .int (bI dd), .int dn, .int rn, .int (bI tr), .int (nI lg), .ref he, .int me, .ref hd, .ref hen, .ref hnd])), (hw, .inl (cI, 160, .inl M)), (hd, .inl (cI, 6, .inl dg)), (hen, .inl (cI, 6, .inl ed)), (hnd, .inl (cI, 16, .inl nd))] U.heap ∧ KN dC dI cI U ∧ va_D (fun _ => True) [(hm, .inr (3, [.int sc, .ref hw, .int (nI cn), .int (nI fu), .int lf, .int (bI dd), .int dn, .int rn, .int (bI tr), .int (nI lg), .ref he, .int me, .ref hd, .ref hen, .ref hnd])), (hw, .inl (cI, 160, .inl M)), (hd, .inl (cI, 6, .inl dg)), (hen, .inl (cI, 6, .inl ed)), (hnd, .inl (cI, 16, .inl nd))])) (va_Qi (fun (r : Int32) (u : (Nat → Int32) × (Nat → Int32) × (Nat → Int32)) => r = fltM v cn M (root sc)) (fun (u : (Nat → Int32) × (Nat → Int32) × (Nat → Int32)) t => va_P (dC, dI) classes [(hm, .inr (3, [.int sc, .ref hw, .int (nI cn), .int (nI fu), .int lf, .int (bI dd), .int dn, .int rn, .int (bI tr), .int (nI lg), .ref he, .int me, .ref hd, .ref hen, .ref hnd])), (hw, .inl (cI, 160, .inl M)), (hd, .inl (cI, 6, .inl u.1)), (hen, .inl (cI, 6, .inl u.2.1)), (hnd, .inl (cI, 16, .inl u.2.2))] t.heap ∧ va_D (va_A [(hm, .inr (3, [.int sc, .ref hw, .int (nI cn), .int (nI fu), .int lf, .int (bI dd), .int dn, .int rn, .int (bI tr), .int (nI lg), .ref he, .int me, .ref hd, .ref hen, .ref hnd])), (hw, .inl (cI, 160, .inl M)), (hd, .inl (cI, 6, .inl dg)), (hen, .inl (cI, 6, .inl ed)), (hnd, .inl (cI, 16, .inl nd))] sz) [(hm, .inr (3, [.int sc, .ref hw, .int (nI cn), .int (nI fu), .int lf, .int (bI dd), .int dn, .int rn, .int (bI tr), .int (nI lg), .ref he, .int me, .ref hd, .ref hen, .ref hnd])), (hw, .inl (cI, 160, .inl M)), (hd, .inl (cI, 6, .inl u.1)), (hen, .inl (cI, 6, .inl u.2.1)), (hnd, .inl (cI, 16, .inl u.2.2))]) (va_A [(hm, .inr (3, [.int sc, .ref hw, .int (nI cn), .int (nI fu), .int lf, .int (bI dd), .int dn, .int rn, .int (bI tr), .int (nI lg), .ref he, .int me, .ref hd, .ref hen, .ref hnd])), (hw, .inl (cI, 160, .inl M)), (hd, .inl (cI, 6, .inl dg)), (hen, .inl (cI, 6, .inl ed)), (hnd, .inl (cI, 16, .inl nd))] sz)) 0 0 (va_A [(hm, .inr (3, [.int sc, .ref hw, .int (nI cn), .int (nI fu), .int lf, .int (bI dd), .int dn, .int rn, .int (bI tr), .int (nI lg), .ref he, .int me, .ref hd, .ref hen, .ref hnd])), (hw, .inl (cI, 160, .inl M)), (hd, .inl (cI, 6, .inl dg)), (hen, .inl (cI, 6, .inl ed)), (hnd, .inl (cI, 16, .inl nd))] sz) := by
  refine Met.ofW (cc := b_Mo_fault) (maxL := 4) (ret := (some .int)) (by decide) rfl ?_
  intro p e s m args below meth c s₁ B hml hv
  obtain ⟨rfl, hsz, hP, hKN, hD0⟩ := hv
  have hK := hKN.1
  have hx := B.exec
  have hb := B.bytes
  have hr := B.returns
  have hts := fun (w : Cond) (h : w ∈ gt) => atoms_spec (ws := w_Mo_fault) B.pre w (List.mem_cons_of_mem _ h)
  have hown : s.vm.findClass R_Mo = some m.cls := findClass_of_methodNamed B.named
  have hlocks := B.notSynchronized
  subst hsz
  have hD := hD0.self (sz := s.heap.size)
  generalize hAe : va_A [(hm, .inr (3, [.int sc, .ref hw, .int (nI cn), .int (nI fu), .int lf, .int (bI dd), .int dn, .int rn, .int (bI tr), .int (nI lg), .ref he, .int me, .ref hd, .ref hen, .ref hnd])), (hw, .inl (cI, 160, .inl M)), (hd, .inl (cI, 6, .inl dg)), (hen, .inl (cI, 6, .inl ed)), (hnd, .inl (cI, 16, .inl nd))] s.heap.size = A at hD ⊢
  have hA : ∀ q : Nat, s.heap.size ≤ q → A q := fun q h => by rw [← hAe]; exact Or.inr h
  have hS : va_S A s.heap s.heap [] := va_S.rf
  have hP : va_P (dC, dI) classes [(hm, .inr (3, [.int sc, .ref hw, .int (nI cn), .int (nI fu), .int lf, .int (bI dd), .int dn, .int rn, .int (bI tr), .int (nI lg), .ref he, .int me, .ref hd, .ref hen, .ref hnd])), (hw, .inl (cI, 160, .inl M)), (hd, .inl (cI, 6, .inl dg)), (hen, .inl (cI, 6, .inl ed)), (hnd, .inl (cI, 16, .inl nd))] s.heap := hP
  clear hAe hD0
  have hl := lv_entry ([.ref hm, .int v]) (n := 4) (Nat.le_of_ble_eq_true rfl)
  rw [lg_entry_eq]
  generalize (lg_sl ([.ref hm, .int v]) ++ List.replicate (4 - (lg_sl ([.ref hm, .int v])).length) Slot.unset).toArray = ls at hl ⊢
  have hl : lv_has ls 4 [(0, .ref hm), (1, .int v)] := hl
  rcases pk_or (v := v) (n := cn) (by omega) with ⟨j, hj, rfl, hjp⟩ | hbad
  · refine lv_aload_n hx hb d_Mo_fault_0 rfl (lv_at hl 0 rfl) ?_
    refine lv_iload_n hx hb d_Mo_fault_1 rfl (lv_at hl 1 rfl) ?_
    refine lv_iconst (v := (nI 0)) hx hb d_Mo_fault_2 (by decide) ?_
    refine pr_call (va_runV (As := [.int (nI j), .int (nI 0)]) (rest := []) ⟨hx, hb, hml, hown, hts⟩ (c_Mo_noWord l dC dI cI (hm := hm) (v := (nI j)) (w := (nI 0)) (sc := sc) (hw := hw) (cn := cn) (fu := fu) (lf := lf) (dd := dd) (dn := dn) (rn := rn) (tr := tr) (lg := lg) (he := he) (me := me) (hd := hd) (hen := hen) (hnd := hnd) ) ⟨callB_of 2 hts (gd kw_500) rfl rfl rfl (hts _ kw_41) (hts _ kw_497) (by decide +kernel) ⟨Nat.le_of_ble_eq_true rfl, Nat.le_of_ble_eq_true rfl⟩, (hts _ kw_499), (hts _ kw_22)⟩ ⟨fun a U g mk q => by obtain ⟨q0, qP, qK⟩ := q; exact ⟨q0, qP, qK.call⟩, va_recv hK hP (ci := 3) rfl (q0 := 0) rfl, fun U hU hW => ⟨rfl, by rw [hU]; exact hP.sub [0] rfl, hKN.warm hW⟩⟩ rfl rfl hl.1 rfl (lv_room (Nat.le_of_ble_eq_true rfl)) d_Mo_fault_3 ⟨Nat.zero_le _, Nat.zero_le _⟩) ?_
    refine tp (congrArg bI (noW_0 _ _)) ?_
    refine bz_eq (tgt := 11) hx hb d_Mo_fault_6 (by decide) (fun h_1 => ?_) (fun h_1 => ?_)
    · refine lv_bipush (v := (nI 40)) hx hb d_Mo_fault_11 (by decide) ?_
      refine lv_bipush (v := (nI 17)) hx hb d_Mo_fault_13 (by decide) ?_
      refine lv_iload_n hx hb d_Mo_fault_15 rfl (lv_at hl 1 rfl) ?_
      refine lv_imul hx hb d_Mo_fault_16 ?_
      refine tp (pk_mul _ _) ?_
      refine lv_iadd hx hb d_Mo_fault_17 ?_
      refine tp (nI_add _ _) ?_
      refine lv_istore_n (lv' := [(2, .int (nI (40 + (17 * j)))), (0, .ref hm), (1, .int (nI j))]) hx hb d_Mo_fault_18 rfl hl (by decide) rfl (fun ls hl => ?_)
      refine lv_aload_n hx hb d_Mo_fault_19 rfl (lv_at hl 1 rfl) ?_
      refine va_get (D := (dC, dI)) (ci := 3) (v := .ref hw) (C := R_Mo) (T := F_Mo) (N := 15) hx hb hts in_Mo hown hK hP 0 rfl rfl 1 (by decide) (hts _ kw_440) (fun _ h9 => h9) rfl d_Mo_fault_20 ?_
      refine lv_iload_n hx hb d_Mo_fault_23 rfl (lv_at hl 0 rfl) ?_
      refine ar_ld (k := 40 + (17 * j)) hx hb hK hP 1 0 rfl rfl (by omega) (by first | decide | omega) d_Mo_fault_24 ?_
      refine lv_iconst (v := (nI 1)) hx hb d_Mo_fault_25 (by decide) ?_
      refine lv_icmp_lt (tgt := 40) hx hb d_Mo_fault_26 (by decide) (fun h_2 => ?_) (fun h_2 => ?_)
      · refine lv_iconst (v := (nI 1)) hx hb d_Mo_fault_40 (by decide) ?_
        exact W.iret (v := (nI 1)) hx hb hr (fun t ht hW => ⟨⟨(nI 1), (dg, ed, nd), rfl, (by rw [fltM, hjp, nI_clamp (by omega), if_pos rfl]; exact (wrong_lo (r := (fun i => M (40 + 17 * j + i))) h_2).symm), by rw [ht]; exact hP, hD⟩, hS.F ht⟩) hS.2.2 d_Mo_fault_41
      · refine lv_aload_n hx hb d_Mo_fault_29 rfl (lv_at hl 1 rfl) ?_
        refine va_get (D := (dC, dI)) (ci := 3) (v := .ref hw) (C := R_Mo) (T := F_Mo) (N := 15) hx hb hts in_Mo hown hK hP 0 rfl rfl 1 (by decide) (hts _ kw_440) (fun _ h9 => h9) rfl d_Mo_fault_30 ?_
        refine lv_iload_n hx hb d_Mo_fault_33 rfl (lv_at hl 0 rfl) ?_
        refine ar_ld (k := 40 + (17 * j)) hx hb hK hP 1 0 rfl rfl (by omega) (by first | decide | omega) d_Mo_fault_34 ?_
        refine lv_bipush (v := (nI 32)) hx hb d_Mo_fault_35 (by decide) ?_
        refine lv_icmp_le (tgt := 42) hx hb d_Mo_fault_37 (by decide) (fun h_3 => ?_) (fun h_3 => ?_)
        · refine lv_aload_n hx hb d_Mo_fault_42 rfl (lv_at hl 1 rfl) ?_
          refine lv_iload_n hx hb d_Mo_fault_43 rfl (lv_at hl 0 rfl) ?_
          refine pr_call (va_runV (As := [.int (nI (40 + (17 * j)))]) (rest := []) ⟨hx, hb, hml, hown, hts⟩ (c_Mo_stranger l dC dI cI (hm := hm) (b := 40 + (17 * j)) (sc := sc) (hw := hw) (cn := cn) (fu := fu) (lf := lf) (dd := dd) (dn := dn) (rn := rn) (tr := tr) (lg := lg) (he := he) (me := me) (hd := hd) (hen := hen) (hnd := hnd) (M := M) (hb160 := (by omega))) ⟨callB_of 1 hts (gd kw_512) rfl rfl rfl (hts _ kw_41) (hts _ kw_509) (by decide +kernel) ⟨Nat.le_of_ble_eq_true rfl, Nat.le_of_ble_eq_true rfl⟩, (hts _ kw_511), (hts _ kw_23)⟩ ⟨fun a U g mk q => by obtain ⟨q0, qP, qK⟩ := q; exact ⟨q0, qP, qK.call⟩, va_recv hK hP (ci := 3) rfl (q0 := 0) rfl, fun U hU hW => ⟨rfl, by rw [hU]; exact hP.sub [0, 1] rfl, hKN.warm hW⟩⟩ rfl rfl hl.1 rfl (lv_room (Nat.le_of_ble_eq_true rfl)) d_Mo_fault_44 ⟨Nat.zero_le _, Nat.zero_le _⟩) ?_
          refine lv_istore_n (lv' := [(3, .int (nI (strg (fun i => M ((40 + (17 * j)) + i))))), (2, .int (nI (40 + (17 * j)))), (0, .ref hm), (1, .int (nI j))]) hx hb d_Mo_fault_47 rfl hl (by decide) rfl (fun ls hl => ?_)
          have gst := strg_le (fun i => M (40 + 17 * j + i))
          refine lv_aload_n hx hb d_Mo_fault_48 rfl (lv_at hl 2 rfl) ?_
          refine lv_iload_n hx hb d_Mo_fault_49 rfl (lv_at hl 1 rfl) ?_
          have hPc := hP.sub (ws' := [(hm, .inr (3, [.int sc, .ref hw, .int (nI cn), .int (nI fu), .int lf, .int (bI dd), .int dn, .int rn, .int (bI tr), .int (nI lg), .ref he, .int me, .ref hd, .ref hen, .ref hnd])), (hw, .inl (cI, 160, .inl M)), (hd, .inl (cI, 6, .inl dg)), (hen, .inl (cI, 6, .inl ed)), (hnd, .inl (cI, 16, .inl nd))]) [0, 1, 2, 3, 4] rfl
          have hDc := hD.sub (ws' := [(hm, .inr (3, [.int sc, .ref hw, .int (nI cn), .int (nI fu), .int lf, .int (bI dd), .int dn, .int rn, .int (bI tr), .int (nI lg), .ref he, .int me, .ref hd, .ref hen, .ref hnd])), (hw, .inl (cI, 160, .inl M)), (hd, .inl (cI, 6, .inl dg)), (hen, .inl (cI, 6, .inl ed)), (hnd, .inl (cI, 16, .inl nd))]) [0, 1, 2, 3, 4] (by decide) rfl
          have hFc := va_free (wc := [(hm, .inr (3, [.int sc, .ref hw, .int (nI cn), .int (nI fu), .int lf, .int (bI dd), .int dn, .int rn, .int (bI tr), .int (nI lg), .ref he, .int me, .ref hd, .ref hen, .ref hnd])), (hw, .inl (cI, 160, .inl M)), (hd, .inl (cI, 6, .inl dg)), (hen, .inl (cI, 6, .inl ed)), (hnd, .inl (cI, 16, .inl nd))]) hD hS hA [0, 1, 2, 3, 4] rfl
          refine va_calli (va_runV (As := [.int (nI (40 + (17 * j)))]) (rest := []) ⟨hx, hb, hml, hown, hts⟩ (c_Mo_signed l dC dI cI (hm := hm) (b := 40 + (17 * j)) (sc := sc) (hw := hw) (cn := cn) (fu := fu) (lf := lf) (dd := dd) (dn := dn) (rn := rn) (tr := tr) (lg := lg) (he := he) (me := me) (hd := hd) (hen := hen) (hnd := hnd) (M := M) (dg := dg) (ed := ed) (nd := nd) (hb160 := (by omega)) (sz := s.heap.size)) ⟨callB_of 1 hts (gd kw_516) rfl rfl rfl (hts _ kw_41) (hts _ kw_513) (by decide +kernel) ⟨Nat.le_of_ble_eq_true rfl, Nat.le_of_ble_eq_true rfl⟩, (hts _ kw_515), (hts _ kw_24)⟩ ⟨fun a U g mk q => by obtain ⟨q0, q1, qP, qK, qD⟩ := q; exact ⟨q0, q1, qP, qK.call, qD⟩, va_recv hK hP (ci := 3) rfl (q0 := 0) rfl, fun U hU hW => ⟨rfl, by rw [hU], by rw [hU]; exact hPc, hKN.warm hW, hDc.weaken (fun _ _ _ _ => trivial)⟩⟩ rfl rfl hl.1 rfl (lv_room (Nat.le_of_ble_eq_true rfl)) d_Mo_fault_50 ⟨Nat.zero_le _, Nat.zero_le _⟩) hS (fun q _ h => hFc q h) hFc (fun r u t H1 locs zt zvm zw zB zz zk hS => ?_)
          obtain ⟨dg_4, ed_4, nd_4⟩ := u
          obtain ⟨b_4, rfl, hu_4⟩ := zw
          obtain ⟨hP1, hD1⟩ := zB
          rw [zt] at hP1
          have hP1 : va_P (dC, dI) classes [(hm, .inr (3, [.int sc, .ref hw, .int (nI cn), .int (nI fu), .int lf, .int (bI dd), .int dn, .int rn, .int (bI tr), .int (nI lg), .ref he, .int me, .ref hd, .ref hen, .ref hnd])), (hw, .inl (cI, 160, .inl M)), (hd, .inl (cI, 6, .inl dg_4)), (hen, .inl (cI, 6, .inl ed_4)), (hnd, .inl (cI, 16, .inl nd_4))] H1 := hP1
          obtain ⟨hP, hD⟩ := va_join (wc := [(hm, .inr (3, [.int sc, .ref hw, .int (nI cn), .int (nI fu), .int lf, .int (bI dd), .int dn, .int rn, .int (bI tr), .int (nI lg), .ref he, .int me, .ref hd, .ref hen, .ref hnd])), (hw, .inl (cI, 160, .inl M)), (hd, .inl (cI, 6, .inl dg)), (hen, .inl (cI, 6, .inl ed)), (hnd, .inl (cI, 16, .inl nd))]) (wr := []) (w1 := [(hm, .inr (3, [.int sc, .ref hw, .int (nI cn), .int (nI fu), .int lf, .int (bI dd), .int dn, .int rn, .int (bI tr), .int (nI lg), .ref he, .int me, .ref hd, .ref hen, .ref hnd])), (hw, .inl (cI, 160, .inl M)), (hd, .inl (cI, 6, .inl dg_4)), (hen, .inl (cI, 6, .inl ed_4)), (hnd, .inl (cI, 16, .inl nd_4))]) hP hD [0, 1, 2, 3, 4] [] rfl rfl (by decide) (by decide) zk hFc hP1 hD1
          generalize H1 = H at hP hS ⊢
          have hP : va_P (dC, dI) classes [(hm, .inr (3, [.int sc, .ref hw, .int (nI cn), .int (nI fu), .int lf, .int (bI dd), .int dn, .int rn, .int (bI tr), .int (nI lg), .ref he, .int me, .ref hd, .ref hen, .ref hnd])), (hw, .inl (cI, 160, .inl M)), (hd, .inl (cI, 6, .inl dg_4)), (hen, .inl (cI, 6, .inl ed_4)), (hnd, .inl (cI, 16, .inl nd_4))] H := hP.sub [0, 1, 2, 3, 4] rfl
          have hD : va_D A [(hm, .inr (3, [.int sc, .ref hw, .int (nI cn), .int (nI fu), .int lf, .int (bI dd), .int dn, .int rn, .int (bI tr), .int (nI lg), .ref he, .int me, .ref hd, .ref hen, .ref hnd])), (hw, .inl (cI, 160, .inl M)), (hd, .inl (cI, 6, .inl dg_4)), (hen, .inl (cI, 6, .inl ed_4)), (hnd, .inl (cI, 16, .inl nd_4))] := hD.sub [0, 1, 2, 3, 4] (by decide) rfl
          clear hPc hDc hFc hP1 hD1 zk zz zvm zt
          refine bz_ne (tgt := 60) hx hb d_Mo_fault_53 (by decide) (fun h_5 => ?_) (fun h_5 => ?_)
          · subst h_5
            refine lv_iload_n hx hb d_Mo_fault_60 rfl (lv_at hl 0 rfl) ?_
            refine lv_iconst (v := (nI 3)) hx hb d_Mo_fault_61 (by decide) ?_
            refine nb_ge (tgt := 71) hx hb d_Mo_fault_62 (by decide) (by first | omega | exact Nat.lt_of_lt_of_le (stt_lt _ _) (by decide)) (by first | omega | exact Nat.lt_of_lt_of_le (stt_lt _ _) (by decide)) (fun h_6 => ?_) (fun h_6 => ?_)
            · refine lv_iconst (v := (nI 0)) hx hb d_Mo_fault_71 (by decide) ?_
              exact W.iret (v := (nI 0)) hx hb hr (fun t ht hW => ⟨⟨(nI 0), (dg_4, ed_4, nd_4), rfl, (by rw [fltM, hjp, nI_clamp (by omega), if_pos rfl]; exact (wrong_0 (r := (fun i => M (40 + 17 * j + i))) h_2 h_3 hu_4.symm h_6).symm), by rw [ht]; exact hP, hD⟩, hS.F ht⟩) hS.2.2 d_Mo_fault_72
            · refine lv_iconst (v := (nI 3)) hx hb d_Mo_fault_65 (by decide) ?_
              refine lv_iload_n hx hb d_Mo_fault_66 rfl (lv_at hl 0 rfl) ?_
              refine lv_iadd hx hb d_Mo_fault_67 ?_
              refine tp (nI_add _ _) ?_
              refine lv_goto (tgt := 72) hx hb d_Mo_fault_68 (by decide) ?_
              exact W.iret (v := (nI (3 + (strg (fun i => M ((40 + (17 * j)) + i)))))) hx hb hr (fun t ht hW => ⟨⟨(nI (3 + (strg (fun i => M ((40 + (17 * j)) + i))))), (dg_4, ed_4, nd_4), rfl, (by rw [fltM, hjp, nI_clamp (by omega), if_pos rfl]; exact (wrong_k (r := (fun i => M (40 + 17 * j + i))) h_2 h_3 hu_4.symm h_6).symm), by rw [ht]; exact hP, hD⟩, hS.F ht⟩) hS.2.2 d_Mo_fault_72
          · subst h_5
            refine lv_iconst (v := (nI 2)) hx hb d_Mo_fault_56 (by decide) ?_
            refine lv_goto (tgt := 72) hx hb d_Mo_fault_57 (by decide) ?_
            exact W.iret (v := (nI 2)) hx hb hr (fun t ht hW => ⟨⟨(nI 2), (dg_4, ed_4, nd_4), rfl, (by rw [fltM, hjp, nI_clamp (by omega), if_pos rfl]; exact (wrong_sg (r := (fun i => M (40 + 17 * j + i))) h_2 h_3 hu_4.symm).symm), by rw [ht]; exact hP, hD⟩, hS.F ht⟩) hS.2.2 d_Mo_fault_72
        · refine lv_iconst (v := (nI 1)) hx hb d_Mo_fault_40 (by decide) ?_
          exact W.iret (v := (nI 1)) hx hb hr (fun t ht hW => ⟨⟨(nI 1), (dg, ed, nd), rfl, (by rw [fltM, hjp, nI_clamp (by omega), if_pos rfl]; exact (wrong_hi (r := (fun i => M (40 + 17 * j + i))) h_2 h_3).symm), by rw [ht]; exact hP, hD⟩, hS.F ht⟩) hS.2.2 d_Mo_fault_41
    · simp [hjp] at h_1
  · refine lv_aload_n hx hb d_Mo_fault_0 rfl (lv_at hl 0 rfl) ?_
    refine lv_iload_n hx hb d_Mo_fault_1 rfl (lv_at hl 1 rfl) ?_
    refine lv_iconst (v := (nI 0)) hx hb d_Mo_fault_2 (by decide) ?_
    refine pr_call (va_runV (As := [.int v, .int (nI 0)]) (rest := []) ⟨hx, hb, hml, hown, hts⟩ (c_Mo_noWord l dC dI cI (hm := hm) (v := v) (w := (nI 0)) (sc := sc) (hw := hw) (cn := cn) (fu := fu) (lf := lf) (dd := dd) (dn := dn) (rn := rn) (tr := tr) (lg := lg) (he := he) (me := me) (hd := hd) (hen := hen) (hnd := hnd) ) ⟨callB_of 2 hts (gd kw_500) rfl rfl rfl (hts _ kw_41) (hts _ kw_497) (by decide +kernel) ⟨Nat.le_of_ble_eq_true rfl, Nat.le_of_ble_eq_true rfl⟩, (hts _ kw_499), (hts _ kw_22)⟩ ⟨fun a U g mk q => by obtain ⟨q0, qP, qK⟩ := q; exact ⟨q0, qP, qK.call⟩, va_recv hK hP (ci := 3) rfl (q0 := 0) rfl, fun U hU hW => ⟨rfl, by rw [hU]; exact hP.sub [0] rfl, hKN.warm hW⟩⟩ rfl rfl hl.1 rfl (lv_room (Nat.le_of_ble_eq_true rfl)) d_Mo_fault_3 ⟨Nat.zero_le _, Nat.zero_le _⟩) ?_
    refine tp (congrArg bI (noW_0 _ _)) ?_
    refine bz_eq (tgt := 11) hx hb d_Mo_fault_6 (by decide) (fun h_7 => ?_) (fun h_7 => ?_)
    · simp [hbad] at h_7
    · refine lv_iconst (v := (-1)) hx hb d_Mo_fault_9 (by decide) ?_
      exact W.iret (v := (-1)) hx hb hr (fun t ht hW => ⟨⟨(-1), (dg, ed, nd), rfl, (by rw [fltM, hbad]; rfl), by rw [ht]; exact hP, hD⟩, hS.F ht⟩) hS.2.2 d_Mo_fault_10
