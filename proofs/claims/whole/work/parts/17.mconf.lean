set_option maxHeartbeats 4000000 in
set_option maxRecDepth 100000 in
theorem c_Mo_confirm (l : Launch) (dC : Nat → ClassId) (dI : Nat → Nat → Nat) (cI : ClassId) (hm : Nat) (sc : Int32) (hw : Nat) (cn : Nat) (fu : Nat) (lf : Int32) (dd : Bool) (dn : Int32) (rn : Int32) (tr : Bool) (lg : Nat) (he : Nat) (me : Int32) (hd : Nat) (hen : Nat) (hnd : Nat) (M : Nat → Int32) (hfu : fu ≤ 32) (htr : tr = true → rn = nI 0 ∨ rn = nI 1) (sz : Nat) : Met l y_Mo_confirm w_Mo_confirm ({ frames := 7, cells := 0, slots := 0, locals := 158 }) (va_Pc [.ref hm] (fun U => U.heap.size = sz ∧ va_P (dC, dI) classes [(hm, .inr (3, [.int sc, .ref hw, .int (nI cn), .int (nI fu), .int lf, .int (bI dd), .int dn, .int rn, .int (bI tr), .int (nI lg), .ref he, .int me, .ref hd, .ref hen, .ref hnd])), (hw, .inl (cI, 160, .inl M))] U.heap ∧ KN dC dI cI U ∧ va_D (fun _ => True) [(hm, .inr (3, [.int sc, .ref hw, .int (nI cn), .int (nI fu), .int lf, .int (bI dd), .int dn, .int rn, .int (bI tr), .int (nI lg), .ref he, .int me, .ref hd, .ref hen, .ref hnd])), (hw, .inl (cI, 160, .inl M))])) (va_Qi (fun (r : Int32) (u : Int32 × Bool × Nat × Int32 × (Nat → Int32) × Nat × Bool × Int32 × Int32) => moCf rn tr lg me M fu dd dn lf = (r, u)) (fun (u : Int32 × Bool × Nat × Int32 × (Nat → Int32) × Nat × Bool × Int32 × Int32) t => va_P (dC, dI) classes [(hm, .inr (3, [.int sc, .ref hw, .int (nI cn), .int (nI u.2.2.2.2.2.1), .int u.2.2.2.2.2.2.2.2, .int (bI u.2.2.2.2.2.2.1), .int u.2.2.2.2.2.2.2.1, .int u.1, .int (bI u.2.1), .int (nI u.2.2.1), .ref he, .int u.2.2.2.1, .ref hd, .ref hen, .ref hnd])), (hw, .inl (cI, 160, .inl u.2.2.2.2.1))] t.heap ∧ va_D (va_A [(hm, .inr (3, [.int sc, .ref hw, .int (nI cn), .int (nI fu), .int lf, .int (bI dd), .int dn, .int rn, .int (bI tr), .int (nI lg), .ref he, .int me, .ref hd, .ref hen, .ref hnd])), (hw, .inl (cI, 160, .inl M))] sz) [(hm, .inr (3, [.int sc, .ref hw, .int (nI cn), .int (nI u.2.2.2.2.2.1), .int u.2.2.2.2.2.2.2.2, .int (bI u.2.2.2.2.2.2.1), .int u.2.2.2.2.2.2.2.1, .int u.1, .int (bI u.2.1), .int (nI u.2.2.1), .ref he, .int u.2.2.2.1, .ref hd, .ref hen, .ref hnd])), (hw, .inl (cI, 160, .inl u.2.2.2.2.1))]) (va_A [(hm, .inr (3, [.int sc, .ref hw, .int (nI cn), .int (nI fu), .int lf, .int (bI dd), .int dn, .int rn, .int (bI tr), .int (nI lg), .ref he, .int me, .ref hd, .ref hen, .ref hnd])), (hw, .inl (cI, 160, .inl M))] sz)) 0 0 (va_A [(hm, .inr (3, [.int sc, .ref hw, .int (nI cn), .int (nI fu), .int lf, .int (bI dd), .int dn, .int rn, .int (bI tr), .int (nI lg), .ref he, .int me, .ref hd, .ref hen, .ref hnd])), (hw, .inl (cI, 160, .inl M))] sz) := by
  refine Met.ofW (cc := b_Mo_confirm) (maxL := 1) (ret := (some .int)) (by decide) rfl ?_
  intro p e s m args below meth c s₁ B hml hv
  obtain ⟨rfl, hsz, hP, hKN, hD0⟩ := hv
  have hK := hKN.1
  have hx := B.exec
  have hb := B.bytes
  have hr := B.returns
  have hts := fun (w : Cond) (h : w ∈ gt) => atoms_spec (ws := w_Mo_confirm) B.pre w (List.mem_cons_of_mem _ h)
  have hown : s.vm.findClass R_Mo = some m.cls := findClass_of_methodNamed B.named
  have hlocks := B.notSynchronized
  subst hsz
  have hD := hD0.self (sz := s.heap.size)
  generalize hAe : va_A [(hm, .inr (3, [.int sc, .ref hw, .int (nI cn), .int (nI fu), .int lf, .int (bI dd), .int dn, .int rn, .int (bI tr), .int (nI lg), .ref he, .int me, .ref hd, .ref hen, .ref hnd])), (hw, .inl (cI, 160, .inl M))] s.heap.size = A at hD ⊢
  have hA : ∀ q : Nat, s.heap.size ≤ q → A q := fun q h => by rw [← hAe]; exact Or.inr h
  have hS : va_S A s.heap s.heap [] := va_S.rf
  have hP : va_P (dC, dI) classes [(hm, .inr (3, [.int sc, .ref hw, .int (nI cn), .int (nI fu), .int lf, .int (bI dd), .int dn, .int rn, .int (bI tr), .int (nI lg), .ref he, .int me, .ref hd, .ref hen, .ref hnd])), (hw, .inl (cI, 160, .inl M))] s.heap := hP
  clear hAe hD0
  have hl := lv_entry ([.ref hm]) (n := 1) (Nat.le_of_ble_eq_true rfl)
  rw [lg_entry_eq]
  generalize (lg_sl ([.ref hm]) ++ List.replicate (1 - (lg_sl ([.ref hm])).length) Slot.unset).toArray = ls at hl ⊢
  have hl : lv_has ls 1 [(0, .ref hm)] := hl
  rcases cf_or htr with rfl | ⟨rfl, rfl⟩ | ⟨rfl, rfl⟩
  · refine lv_aload_n hx hb d_Mo_confirm_0 rfl (lv_at hl 0 rfl) ?_
    refine va_get (D := (dC, dI)) (ci := 3) (v := .int (bI false)) (C := R_Mo) (T := F_Mo) (N := 15) hx hb hts in_Mo hown hK hP 0 rfl rfl 8 (by decide) (hts _ kw_447) (fun _ h9 => h9) rfl d_Mo_confirm_1 ?_
    refine bz_ne (tgt := 10) hx hb d_Mo_confirm_4 (by decide) (fun h_1 => ?_) (fun h_1 => ?_)
    · exact absurd h_1 (by decide)
    · refine lv_bipush (v := (-2)) hx hb d_Mo_confirm_7 (by decide) ?_
      exact W.iret (v := (-2)) hx hb hr (fun t ht hW => ⟨⟨(-2), (rn, false, lg, me, M, fu, dd, dn, lf), rfl, (by rfl), by rw [ht]; exact hP, hD⟩, hS.F ht⟩) hS.2.2 d_Mo_confirm_9
  · refine lv_aload_n hx hb d_Mo_confirm_0 rfl (lv_at hl 0 rfl) ?_
    refine va_get (D := (dC, dI)) (ci := 3) (v := .int (bI true)) (C := R_Mo) (T := F_Mo) (N := 15) hx hb hts in_Mo hown hK hP 0 rfl rfl 8 (by decide) (hts _ kw_447) (fun _ h9 => h9) rfl d_Mo_confirm_1 ?_
    refine bz_ne (tgt := 10) hx hb d_Mo_confirm_4 (by decide) (fun h_2 => ?_) (fun h_2 => ?_)
    · refine lv_aload_n hx hb d_Mo_confirm_10 rfl (lv_at hl 0 rfl) ?_
      refine lv_aload_n hx hb d_Mo_confirm_11 rfl (lv_at hl 0 rfl) ?_
      refine va_get (D := (dC, dI)) (ci := 3) (v := .int (nI 0)) (C := R_Mo) (T := F_Mo) (N := 15) hx hb hts in_Mo hown hK hP 0 rfl rfl 7 (by decide) (hts _ kw_446) (fun _ h9 => h9) rfl d_Mo_confirm_12 ?_
      refine lv_iconst (v := (nI 3)) hx hb d_Mo_confirm_15 (by decide) ?_
      refine lv_aload_n hx hb d_Mo_confirm_16 rfl (lv_at hl 0 rfl) ?_
      refine va_get (D := (dC, dI)) (ci := 3) (v := .int (nI 0)) (C := R_Mo) (T := F_Mo) (N := 15) hx hb hts in_Mo hown hK hP 0 rfl rfl 7 (by decide) (hts _ kw_446) (fun _ h9 => h9) rfl d_Mo_confirm_17 ?_
      have hPc := hP.sub (ws' := [(hm, .inr (3, [.int sc, .ref hw, .int (nI cn), .int (nI fu), .int lf, .int (bI dd), .int dn, .int (nI 0), .int (bI true), .int (nI lg), .ref he, .int me, .ref hd, .ref hen, .ref hnd])), (hw, .inl (cI, 160, .inl M))]) [0, 1] rfl
      have hDc := hD.sub (ws' := [(hm, .inr (3, [.int sc, .ref hw, .int (nI cn), .int (nI fu), .int lf, .int (bI dd), .int dn, .int (nI 0), .int (bI true), .int (nI lg), .ref he, .int me, .ref hd, .ref hen, .ref hnd])), (hw, .inl (cI, 160, .inl M))]) [0, 1] (by decide) rfl
      have hFc := va_free (wc := [(hm, .inr (3, [.int sc, .ref hw, .int (nI cn), .int (nI fu), .int lf, .int (bI dd), .int dn, .int (nI 0), .int (bI true), .int (nI lg), .ref he, .int me, .ref hd, .ref hen, .ref hnd])), (hw, .inl (cI, 160, .inl M))]) hD hS hA [0, 1] rfl
      refine va_callv (va_runV (As := [.int (nI 0), .int (nI 3), .int (nI 0)]) (rest := []) ⟨hx, hb, hml, hown, hts⟩ (c_Mo_table l dC dI cI (hm := hm) (k := 0) (v := 3) (g := 0) (sc := sc) (hw := hw) (cn := cn) (fu := fu) (lf := lf) (dd := dd) (dn := dn) (rn := (nI 0)) (tr := true) (lg := lg) (he := he) (me := me) (hd := hd) (hen := hen) (hnd := hnd) (M := M) (hk := (by omega)) (sz := s.heap.size)) ⟨callB_of 3 hts (gd kw_550) rfl rfl rfl (hts _ kw_41) (hts _ kw_547) (by decide +kernel) ⟨Nat.le_of_ble_eq_true rfl, Nat.le_of_ble_eq_true rfl⟩, (hts _ kw_549), (hts _ kw_28)⟩ ⟨fun a U g mk q => by obtain ⟨q0, q1, qP, qK, qD⟩ := q; exact ⟨q0, q1, qP, qK.call, qD⟩, va_recv hK hP (ci := 3) rfl (q0 := 0) rfl, fun U hU hW => ⟨rfl, by rw [hU], by rw [hU]; exact hPc, hKN.warm hW, hDc.weaken (fun _ _ _ _ => trivial)⟩⟩ rfl rfl hl.1 rfl (lv_room (Nat.le_of_ble_eq_true rfl)) d_Mo_confirm_20 ⟨Nat.zero_le _, Nat.zero_le _⟩) hS (fun q _ h => hFc q h) hFc (fun u t H1 locs zt zvm zw zB zz zk hS => ?_)
      obtain ⟨M_3, dd_3, dn_3, lf_3⟩ := u
      have hu_3 := zw
      obtain ⟨hP1, hD1⟩ := zB
      rw [zt] at hP1
      have hP1 : va_P (dC, dI) classes [(hm, .inr (3, [.int sc, .ref hw, .int (nI cn), .int (nI fu), .int lf_3, .int (bI dd_3), .int dn_3, .int (nI 0), .int (bI true), .int (nI lg), .ref he, .int me, .ref hd, .ref hen, .ref hnd])), (hw, .inl (cI, 160, .inl M_3))] H1 := hP1
      obtain ⟨hP, hD⟩ := va_join (wc := [(hm, .inr (3, [.int sc, .ref hw, .int (nI cn), .int (nI fu), .int lf, .int (bI dd), .int dn, .int (nI 0), .int (bI true), .int (nI lg), .ref he, .int me, .ref hd, .ref hen, .ref hnd])), (hw, .inl (cI, 160, .inl M))]) (wr := []) (w1 := [(hm, .inr (3, [.int sc, .ref hw, .int (nI cn), .int (nI fu), .int lf_3, .int (bI dd_3), .int dn_3, .int (nI 0), .int (bI true), .int (nI lg), .ref he, .int me, .ref hd, .ref hen, .ref hnd])), (hw, .inl (cI, 160, .inl M_3))]) hP hD [0, 1] [] rfl rfl (by decide) (by decide) zk hFc hP1 hD1
      generalize H1 = H at hP hS ⊢
      have hP : va_P (dC, dI) classes [(hm, .inr (3, [.int sc, .ref hw, .int (nI cn), .int (nI fu), .int lf_3, .int (bI dd_3), .int dn_3, .int (nI 0), .int (bI true), .int (nI lg), .ref he, .int me, .ref hd, .ref hen, .ref hnd])), (hw, .inl (cI, 160, .inl M_3))] H := hP.sub [0, 1] rfl
      have hD : va_D A [(hm, .inr (3, [.int sc, .ref hw, .int (nI cn), .int (nI fu), .int lf_3, .int (bI dd_3), .int dn_3, .int (nI 0), .int (bI true), .int (nI lg), .ref he, .int me, .ref hd, .ref hen, .ref hnd])), (hw, .inl (cI, 160, .inl M_3))] := hD.sub [0, 1] (by decide) rfl
      clear hPc hDc hFc hP1 hD1 zk zz zvm zt
      refine lv_aload_n hx hb d_Mo_confirm_23 rfl (lv_at hl 0 rfl) ?_
      refine lv_aload_n hx hb d_Mo_confirm_24 rfl (lv_at hl 0 rfl) ?_
      refine va_get (D := (dC, dI)) (ci := 3) (v := .ref hw) (C := R_Mo) (T := F_Mo) (N := 15) hx hb hts in_Mo hown hK hP 0 rfl rfl 1 (by decide) (hts _ kw_440) (fun _ h9 => h9) rfl d_Mo_confirm_25 ?_
      refine lv_bipush (v := (nI 17)) hx hb d_Mo_confirm_28 (by decide) ?_
      refine lv_aload_n hx hb d_Mo_confirm_30 rfl (lv_at hl 0 rfl) ?_
      refine va_get (D := (dC, dI)) (ci := 3) (v := .int (nI 0)) (C := R_Mo) (T := F_Mo) (N := 15) hx hb hts in_Mo hown hK hP 0 rfl rfl 7 (by decide) (hts _ kw_446) (fun _ h9 => h9) rfl d_Mo_confirm_31 ?_
      refine lv_imul hx hb d_Mo_confirm_34 ?_
      refine tp (pk_mul _ _) ?_
      refine ar_ld (k := 17 * 0) hx hb hK hP 1 0 rfl rfl (by omega) (by first | decide | omega) d_Mo_confirm_35 ?_
      have hPc := hP.sub (ws' := [(hm, .inr (3, [.int sc, .ref hw, .int (nI cn), .int (nI fu), .int lf_3, .int (bI dd_3), .int dn_3, .int (nI 0), .int (bI true), .int (nI lg), .ref he, .int me, .ref hd, .ref hen, .ref hnd]))]) [0] rfl
      have hDc := hD.sub (ws' := [(hm, .inr (3, [.int sc, .ref hw, .int (nI cn), .int (nI fu), .int lf_3, .int (bI dd_3), .int dn_3, .int (nI 0), .int (bI true), .int (nI lg), .ref he, .int me, .ref hd, .ref hen, .ref hnd]))]) [0] (by decide) rfl
      have hFc := va_free (wc := [(hm, .inr (3, [.int sc, .ref hw, .int (nI cn), .int (nI fu), .int lf_3, .int (bI dd_3), .int dn_3, .int (nI 0), .int (bI true), .int (nI lg), .ref he, .int me, .ref hd, .ref hen, .ref hnd]))]) hD hS hA [0] rfl
      refine va_callv (va_runV (As := [.int (M_3 (17 * 0))]) (rest := []) ⟨hx, hb, hml, hown, hts⟩ (c_Mo_blow l dC dI cI (hm := hm) (v := M_3 (17 * 0)) (sc := sc) (hw := hw) (cn := cn) (fu := fu) (lf := lf_3) (dd := dd_3) (dn := dn_3) (rn := (nI 0)) (tr := true) (lg := lg) (he := he) (me := me) (hd := hd) (hen := hen) (hnd := hnd) (hfu := (by omega)) (sz := H.size)) ⟨callB_of 1 hts (gd kw_575) rfl rfl rfl (hts _ kw_41) (hts _ kw_572) (by decide +kernel) ⟨Nat.le_of_ble_eq_true rfl, Nat.le_of_ble_eq_true rfl⟩, (hts _ kw_574), (hts _ kw_33)⟩ ⟨fun a U g mk q => by obtain ⟨q0, q1, qP, qK, qD⟩ := q; exact ⟨q0, q1, qP, qK.call, qD⟩, va_recv hK hP (ci := 3) rfl (q0 := 0) rfl, fun U hU hW => ⟨rfl, by rw [hU], by rw [hU]; exact hPc, hKN.warm hW, hDc.weaken (fun _ _ _ _ => trivial)⟩⟩ rfl rfl hl.1 rfl (lv_room (Nat.le_of_ble_eq_true rfl)) d_Mo_confirm_36 ⟨Nat.zero_le _, Nat.zero_le _⟩) hS (fun q _ h => hFc q h) hFc (fun u t H1 locs zt zvm zw zB zz zk hS => ?_)
      obtain ⟨fu_4, dd_4, dn_4, lf_4⟩ := u
      have hu_4 := zw
      obtain ⟨hP1, hD1⟩ := zB
      rw [zt] at hP1
      have hP1 : va_P (dC, dI) classes [(hm, .inr (3, [.int sc, .ref hw, .int (nI cn), .int (nI fu_4), .int lf_4, .int (bI dd_4), .int dn_4, .int (nI 0), .int (bI true), .int (nI lg), .ref he, .int me, .ref hd, .ref hen, .ref hnd]))] H1 := hP1
      obtain ⟨hP, hD⟩ := va_join (wc := [(hm, .inr (3, [.int sc, .ref hw, .int (nI cn), .int (nI fu), .int lf_3, .int (bI dd_3), .int dn_3, .int (nI 0), .int (bI true), .int (nI lg), .ref he, .int me, .ref hd, .ref hen, .ref hnd]))]) (wr := [(hw, .inl (cI, 160, .inl M_3))]) (w1 := [(hm, .inr (3, [.int sc, .ref hw, .int (nI cn), .int (nI fu_4), .int lf_4, .int (bI dd_4), .int dn_4, .int (nI 0), .int (bI true), .int (nI lg), .ref he, .int me, .ref hd, .ref hen, .ref hnd]))]) hP hD [0] [1] rfl rfl (by decide) (by decide) zk hFc hP1 hD1
      generalize H1 = H at hP hS ⊢
      have hP : va_P (dC, dI) classes [(hm, .inr (3, [.int sc, .ref hw, .int (nI cn), .int (nI fu_4), .int lf_4, .int (bI dd_4), .int dn_4, .int (nI 0), .int (bI true), .int (nI lg), .ref he, .int me, .ref hd, .ref hen, .ref hnd])), (hw, .inl (cI, 160, .inl M_3))] H := hP.sub [1, 0] rfl
      have hD : va_D A [(hm, .inr (3, [.int sc, .ref hw, .int (nI cn), .int (nI fu_4), .int lf_4, .int (bI dd_4), .int dn_4, .int (nI 0), .int (bI true), .int (nI lg), .ref he, .int me, .ref hd, .ref hen, .ref hnd])), (hw, .inl (cI, 160, .inl M_3))] := hD.sub [1, 0] (by decide) rfl
      clear hPc hDc hFc hP1 hD1 zk zz zvm zt
      refine lv_aload_n hx hb d_Mo_confirm_39 rfl (lv_at hl 0 rfl) ?_
      refine lv_iconst (v := (nI 0)) hx hb d_Mo_confirm_40 (by decide) ?_
      refine va_put (D := (dC, dI)) (ci := 3) (v := .int (bI false)) (ty := .boolean) (C := R_Mo) (T := F_Mo) (N := 15) hx hb hts in_Mo t_Mo t_Mo_ok n_Mo hown hK hP hD hS 0 rfl rfl 8 (by decide) (hts _ kw_447) (fun _ h9 => h9) rfl (by decide +kernel) (bI_narrow _) (bI_fits _) (Nat.le_of_ble_eq_true rfl) d_Mo_confirm_41 (fun H locs hP hD hS => ?_)
      have hP : va_P (dC, dI) classes [(hm, .inr (3, [.int sc, .ref hw, .int (nI cn), .int (nI fu_4), .int lf_4, .int (bI dd_4), .int dn_4, .int (nI 0), .int (bI false), .int (nI lg), .ref he, .int me, .ref hd, .ref hen, .ref hnd])), (hw, .inl (cI, 160, .inl M_3))] H := hP
      have hD : va_D A [(hm, .inr (3, [.int sc, .ref hw, .int (nI cn), .int (nI fu_4), .int lf_4, .int (bI dd_4), .int dn_4, .int (nI 0), .int (bI false), .int (nI lg), .ref he, .int me, .ref hd, .ref hen, .ref hnd])), (hw, .inl (cI, 160, .inl M_3))] := hD
      refine lv_aload_n hx hb d_Mo_confirm_44 rfl (lv_at hl 0 rfl) ?_
      refine lv_iconst (v := (nI 0)) hx hb d_Mo_confirm_45 (by decide) ?_
      have hPc := hP.sub (ws' := [(hm, .inr (3, [.int sc, .ref hw, .int (nI cn), .int (nI fu_4), .int lf_4, .int (bI dd_4), .int dn_4, .int (nI 0), .int (bI false), .int (nI lg), .ref he, .int me, .ref hd, .ref hen, .ref hnd]))]) [0] rfl
      have hDc := hD.sub (ws' := [(hm, .inr (3, [.int sc, .ref hw, .int (nI cn), .int (nI fu_4), .int lf_4, .int (bI dd_4), .int dn_4, .int (nI 0), .int (bI false), .int (nI lg), .ref he, .int me, .ref hd, .ref hen, .ref hnd]))]) [0] (by decide) rfl
      have hFc := va_free (wc := [(hm, .inr (3, [.int sc, .ref hw, .int (nI cn), .int (nI fu_4), .int lf_4, .int (bI dd_4), .int dn_4, .int (nI 0), .int (bI false), .int (nI lg), .ref he, .int me, .ref hd, .ref hen, .ref hnd]))]) hD hS hA [0] rfl
      refine va_calli (va_runV (As := [.int (nI 0)]) (rest := []) ⟨hx, hb, hml, hown, hts⟩ (c_Mo_answer l dC dI cI (hm := hm) (g := (nI 0)) (sc := sc) (hw := hw) (cn := cn) (fu := fu_4) (lf := lf_4) (dd := dd_4) (dn := dn_4) (rn := (nI 0)) (tr := false) (lg := lg) (he := he) (me := me) (hd := hd) (hen := hen) (hnd := hnd)  (sz := H.size)) ⟨callB_of 1 hts (gd kw_563) rfl rfl rfl (hts _ kw_41) (hts _ kw_560) (by decide +kernel) ⟨Nat.le_of_ble_eq_true rfl, Nat.le_of_ble_eq_true rfl⟩, (hts _ kw_562), (hts _ kw_31)⟩ ⟨fun a U g mk q => by obtain ⟨q0, q1, qP, qK, qD⟩ := q; exact ⟨q0, q1, qP, qK.call, qD⟩, va_recv hK hP (ci := 3) rfl (q0 := 0) rfl, fun U hU hW => ⟨rfl, by rw [hU], by rw [hU]; exact hPc, hKN.warm hW, hDc.weaken (fun _ _ _ _ => trivial)⟩⟩ rfl rfl hl.1 rfl (lv_room (Nat.le_of_ble_eq_true rfl)) d_Mo_confirm_46 ⟨Nat.zero_le _, Nat.zero_le _⟩) hS (fun q _ h => hFc q h) hFc (fun r u t H1 locs zt zvm zw zB zz zk hS => ?_)
      obtain ⟨dd_5, rn_5, tr_5, lg_5, me_5⟩ := u
      obtain ⟨r_5, rfl⟩ : ∃ z, z = r := ⟨_, rfl⟩
      have hu_5 := zw
      obtain ⟨hP1, hD1⟩ := zB
      rw [zt] at hP1
      have hP1 : va_P (dC, dI) classes [(hm, .inr (3, [.int sc, .ref hw, .int (nI cn), .int (nI fu_4), .int lf_4, .int (bI dd_5), .int dn_4, .int rn_5, .int (bI tr_5), .int (nI lg_5), .ref he, .int me_5, .ref hd, .ref hen, .ref hnd]))] H1 := hP1
      obtain ⟨hP, hD⟩ := va_join (wc := [(hm, .inr (3, [.int sc, .ref hw, .int (nI cn), .int (nI fu_4), .int lf_4, .int (bI dd_4), .int dn_4, .int (nI 0), .int (bI false), .int (nI lg), .ref he, .int me, .ref hd, .ref hen, .ref hnd]))]) (wr := [(hw, .inl (cI, 160, .inl M_3))]) (w1 := [(hm, .inr (3, [.int sc, .ref hw, .int (nI cn), .int (nI fu_4), .int lf_4, .int (bI dd_5), .int dn_4, .int rn_5, .int (bI tr_5), .int (nI lg_5), .ref he, .int me_5, .ref hd, .ref hen, .ref hnd]))]) hP hD [0] [1] rfl rfl (by decide) (by decide) zk hFc hP1 hD1
      generalize H1 = H at hP hS ⊢
      have hP : va_P (dC, dI) classes [(hm, .inr (3, [.int sc, .ref hw, .int (nI cn), .int (nI fu_4), .int lf_4, .int (bI dd_5), .int dn_4, .int rn_5, .int (bI tr_5), .int (nI lg_5), .ref he, .int me_5, .ref hd, .ref hen, .ref hnd])), (hw, .inl (cI, 160, .inl M_3))] H := hP.sub [1, 0] rfl
      have hD : va_D A [(hm, .inr (3, [.int sc, .ref hw, .int (nI cn), .int (nI fu_4), .int lf_4, .int (bI dd_5), .int dn_4, .int rn_5, .int (bI tr_5), .int (nI lg_5), .ref he, .int me_5, .ref hd, .ref hen, .ref hnd])), (hw, .inl (cI, 160, .inl M_3))] := hD.sub [1, 0] (by decide) rfl
      clear hPc hDc hFc hP1 hD1 zk zz zvm zt
      exact W.iret (v := r_5) hx hb hr (fun t ht hW => ⟨⟨r_5, (rn_5, tr_5, lg_5, me_5, M_3, fu_4, dd_5, dn_4, lf_4), rfl, (by rw [moCf_0]; simp only [moCfK, hu_3, hu_4, hu_5, eq_self, reduceCtorEq, if_true, if_false, Nat.reduceSub]), by rw [ht]; exact hP, hD⟩, hS.F ht⟩) hS.2.2 d_Mo_confirm_49
    · exact absurd h_2 (by decide)
  · refine lv_aload_n hx hb d_Mo_confirm_0 rfl (lv_at hl 0 rfl) ?_
    refine va_get (D := (dC, dI)) (ci := 3) (v := .int (bI true)) (C := R_Mo) (T := F_Mo) (N := 15) hx hb hts in_Mo hown hK hP 0 rfl rfl 8 (by decide) (hts _ kw_447) (fun _ h9 => h9) rfl d_Mo_confirm_1 ?_
    refine bz_ne (tgt := 10) hx hb d_Mo_confirm_4 (by decide) (fun h_6 => ?_) (fun h_6 => ?_)
    · refine lv_aload_n hx hb d_Mo_confirm_10 rfl (lv_at hl 0 rfl) ?_
      refine lv_aload_n hx hb d_Mo_confirm_11 rfl (lv_at hl 0 rfl) ?_
      refine va_get (D := (dC, dI)) (ci := 3) (v := .int (nI 1)) (C := R_Mo) (T := F_Mo) (N := 15) hx hb hts in_Mo hown hK hP 0 rfl rfl 7 (by decide) (hts _ kw_446) (fun _ h9 => h9) rfl d_Mo_confirm_12 ?_
      refine lv_iconst (v := (nI 3)) hx hb d_Mo_confirm_15 (by decide) ?_
      refine lv_aload_n hx hb d_Mo_confirm_16 rfl (lv_at hl 0 rfl) ?_
      refine va_get (D := (dC, dI)) (ci := 3) (v := .int (nI 1)) (C := R_Mo) (T := F_Mo) (N := 15) hx hb hts in_Mo hown hK hP 0 rfl rfl 7 (by decide) (hts _ kw_446) (fun _ h9 => h9) rfl d_Mo_confirm_17 ?_
      have hPc := hP.sub (ws' := [(hm, .inr (3, [.int sc, .ref hw, .int (nI cn), .int (nI fu), .int lf, .int (bI dd), .int dn, .int (nI 1), .int (bI true), .int (nI lg), .ref he, .int me, .ref hd, .ref hen, .ref hnd])), (hw, .inl (cI, 160, .inl M))]) [0, 1] rfl
      have hDc := hD.sub (ws' := [(hm, .inr (3, [.int sc, .ref hw, .int (nI cn), .int (nI fu), .int lf, .int (bI dd), .int dn, .int (nI 1), .int (bI true), .int (nI lg), .ref he, .int me, .ref hd, .ref hen, .ref hnd])), (hw, .inl (cI, 160, .inl M))]) [0, 1] (by decide) rfl
      have hFc := va_free (wc := [(hm, .inr (3, [.int sc, .ref hw, .int (nI cn), .int (nI fu), .int lf, .int (bI dd), .int dn, .int (nI 1), .int (bI true), .int (nI lg), .ref he, .int me, .ref hd, .ref hen, .ref hnd])), (hw, .inl (cI, 160, .inl M))]) hD hS hA [0, 1] rfl
      refine va_callv (va_runV (As := [.int (nI 1), .int (nI 3), .int (nI 1)]) (rest := []) ⟨hx, hb, hml, hown, hts⟩ (c_Mo_table l dC dI cI (hm := hm) (k := 1) (v := 3) (g := 1) (sc := sc) (hw := hw) (cn := cn) (fu := fu) (lf := lf) (dd := dd) (dn := dn) (rn := (nI 1)) (tr := true) (lg := lg) (he := he) (me := me) (hd := hd) (hen := hen) (hnd := hnd) (M := M) (hk := (by omega)) (sz := s.heap.size)) ⟨callB_of 3 hts (gd kw_550) rfl rfl rfl (hts _ kw_41) (hts _ kw_547) (by decide +kernel) ⟨Nat.le_of_ble_eq_true rfl, Nat.le_of_ble_eq_true rfl⟩, (hts _ kw_549), (hts _ kw_28)⟩ ⟨fun a U g mk q => by obtain ⟨q0, q1, qP, qK, qD⟩ := q; exact ⟨q0, q1, qP, qK.call, qD⟩, va_recv hK hP (ci := 3) rfl (q0 := 0) rfl, fun U hU hW => ⟨rfl, by rw [hU], by rw [hU]; exact hPc, hKN.warm hW, hDc.weaken (fun _ _ _ _ => trivial)⟩⟩ rfl rfl hl.1 rfl (lv_room (Nat.le_of_ble_eq_true rfl)) d_Mo_confirm_20 ⟨Nat.zero_le _, Nat.zero_le _⟩) hS (fun q _ h => hFc q h) hFc (fun u t H1 locs zt zvm zw zB zz zk hS => ?_)
      obtain ⟨M_7, dd_7, dn_7, lf_7⟩ := u
      have hu_7 := zw
      obtain ⟨hP1, hD1⟩ := zB
      rw [zt] at hP1
      have hP1 : va_P (dC, dI) classes [(hm, .inr (3, [.int sc, .ref hw, .int (nI cn), .int (nI fu), .int lf_7, .int (bI dd_7), .int dn_7, .int (nI 1), .int (bI true), .int (nI lg), .ref he, .int me, .ref hd, .ref hen, .ref hnd])), (hw, .inl (cI, 160, .inl M_7))] H1 := hP1
      obtain ⟨hP, hD⟩ := va_join (wc := [(hm, .inr (3, [.int sc, .ref hw, .int (nI cn), .int (nI fu), .int lf, .int (bI dd), .int dn, .int (nI 1), .int (bI true), .int (nI lg), .ref he, .int me, .ref hd, .ref hen, .ref hnd])), (hw, .inl (cI, 160, .inl M))]) (wr := []) (w1 := [(hm, .inr (3, [.int sc, .ref hw, .int (nI cn), .int (nI fu), .int lf_7, .int (bI dd_7), .int dn_7, .int (nI 1), .int (bI true), .int (nI lg), .ref he, .int me, .ref hd, .ref hen, .ref hnd])), (hw, .inl (cI, 160, .inl M_7))]) hP hD [0, 1] [] rfl rfl (by decide) (by decide) zk hFc hP1 hD1
      generalize H1 = H at hP hS ⊢
      have hP : va_P (dC, dI) classes [(hm, .inr (3, [.int sc, .ref hw, .int (nI cn), .int (nI fu), .int lf_7, .int (bI dd_7), .int dn_7, .int (nI 1), .int (bI true), .int (nI lg), .ref he, .int me, .ref hd, .ref hen, .ref hnd])), (hw, .inl (cI, 160, .inl M_7))] H := hP.sub [0, 1] rfl
      have hD : va_D A [(hm, .inr (3, [.int sc, .ref hw, .int (nI cn), .int (nI fu), .int lf_7, .int (bI dd_7), .int dn_7, .int (nI 1), .int (bI true), .int (nI lg), .ref he, .int me, .ref hd, .ref hen, .ref hnd])), (hw, .inl (cI, 160, .inl M_7))] := hD.sub [0, 1] (by decide) rfl
      clear hPc hDc hFc hP1 hD1 zk zz zvm zt
      refine lv_aload_n hx hb d_Mo_confirm_23 rfl (lv_at hl 0 rfl) ?_
      refine lv_aload_n hx hb d_Mo_confirm_24 rfl (lv_at hl 0 rfl) ?_
      refine va_get (D := (dC, dI)) (ci := 3) (v := .ref hw) (C := R_Mo) (T := F_Mo) (N := 15) hx hb hts in_Mo hown hK hP 0 rfl rfl 1 (by decide) (hts _ kw_440) (fun _ h9 => h9) rfl d_Mo_confirm_25 ?_
      refine lv_bipush (v := (nI 17)) hx hb d_Mo_confirm_28 (by decide) ?_
      refine lv_aload_n hx hb d_Mo_confirm_30 rfl (lv_at hl 0 rfl) ?_
      refine va_get (D := (dC, dI)) (ci := 3) (v := .int (nI 1)) (C := R_Mo) (T := F_Mo) (N := 15) hx hb hts in_Mo hown hK hP 0 rfl rfl 7 (by decide) (hts _ kw_446) (fun _ h9 => h9) rfl d_Mo_confirm_31 ?_
      refine lv_imul hx hb d_Mo_confirm_34 ?_
      refine tp (pk_mul _ _) ?_
      refine ar_ld (k := 17 * 1) hx hb hK hP 1 0 rfl rfl (by omega) (by first | decide | omega) d_Mo_confirm_35 ?_
      have hPc := hP.sub (ws' := [(hm, .inr (3, [.int sc, .ref hw, .int (nI cn), .int (nI fu), .int lf_7, .int (bI dd_7), .int dn_7, .int (nI 1), .int (bI true), .int (nI lg), .ref he, .int me, .ref hd, .ref hen, .ref hnd]))]) [0] rfl
      have hDc := hD.sub (ws' := [(hm, .inr (3, [.int sc, .ref hw, .int (nI cn), .int (nI fu), .int lf_7, .int (bI dd_7), .int dn_7, .int (nI 1), .int (bI true), .int (nI lg), .ref he, .int me, .ref hd, .ref hen, .ref hnd]))]) [0] (by decide) rfl
      have hFc := va_free (wc := [(hm, .inr (3, [.int sc, .ref hw, .int (nI cn), .int (nI fu), .int lf_7, .int (bI dd_7), .int dn_7, .int (nI 1), .int (bI true), .int (nI lg), .ref he, .int me, .ref hd, .ref hen, .ref hnd]))]) hD hS hA [0] rfl
      refine va_callv (va_runV (As := [.int (M_7 (17 * 1))]) (rest := []) ⟨hx, hb, hml, hown, hts⟩ (c_Mo_blow l dC dI cI (hm := hm) (v := M_7 (17 * 1)) (sc := sc) (hw := hw) (cn := cn) (fu := fu) (lf := lf_7) (dd := dd_7) (dn := dn_7) (rn := (nI 1)) (tr := true) (lg := lg) (he := he) (me := me) (hd := hd) (hen := hen) (hnd := hnd) (hfu := (by omega)) (sz := H.size)) ⟨callB_of 1 hts (gd kw_575) rfl rfl rfl (hts _ kw_41) (hts _ kw_572) (by decide +kernel) ⟨Nat.le_of_ble_eq_true rfl, Nat.le_of_ble_eq_true rfl⟩, (hts _ kw_574), (hts _ kw_33)⟩ ⟨fun a U g mk q => by obtain ⟨q0, q1, qP, qK, qD⟩ := q; exact ⟨q0, q1, qP, qK.call, qD⟩, va_recv hK hP (ci := 3) rfl (q0 := 0) rfl, fun U hU hW => ⟨rfl, by rw [hU], by rw [hU]; exact hPc, hKN.warm hW, hDc.weaken (fun _ _ _ _ => trivial)⟩⟩ rfl rfl hl.1 rfl (lv_room (Nat.le_of_ble_eq_true rfl)) d_Mo_confirm_36 ⟨Nat.zero_le _, Nat.zero_le _⟩) hS (fun q _ h => hFc q h) hFc (fun u t H1 locs zt zvm zw zB zz zk hS => ?_)
      obtain ⟨fu_8, dd_8, dn_8, lf_8⟩ := u
      have hu_8 := zw
      obtain ⟨hP1, hD1⟩ := zB
      rw [zt] at hP1
      have hP1 : va_P (dC, dI) classes [(hm, .inr (3, [.int sc, .ref hw, .int (nI cn), .int (nI fu_8), .int lf_8, .int (bI dd_8), .int dn_8, .int (nI 1), .int (bI true), .int (nI lg), .ref he, .int me, .ref hd, .ref hen, .ref hnd]))] H1 := hP1
      obtain ⟨hP, hD⟩ := va_join (wc := [(hm, .inr (3, [.int sc, .ref hw, .int (nI cn), .int (nI fu), .int lf_7, .int (bI dd_7), .int dn_7, .int (nI 1), .int (bI true), .int (nI lg), .ref he, .int me, .ref hd, .ref hen, .ref hnd]))]) (wr := [(hw, .inl (cI, 160, .inl M_7))]) (w1 := [(hm, .inr (3, [.int sc, .ref hw, .int (nI cn), .int (nI fu_8), .int lf_8, .int (bI dd_8), .int dn_8, .int (nI 1), .int (bI true), .int (nI lg), .ref he, .int me, .ref hd, .ref hen, .ref hnd]))]) hP hD [0] [1] rfl rfl (by decide) (by decide) zk hFc hP1 hD1
      generalize H1 = H at hP hS ⊢
      have hP : va_P (dC, dI) classes [(hm, .inr (3, [.int sc, .ref hw, .int (nI cn), .int (nI fu_8), .int lf_8, .int (bI dd_8), .int dn_8, .int (nI 1), .int (bI true), .int (nI lg), .ref he, .int me, .ref hd, .ref hen, .ref hnd])), (hw, .inl (cI, 160, .inl M_7))] H := hP.sub [1, 0] rfl
      have hD : va_D A [(hm, .inr (3, [.int sc, .ref hw, .int (nI cn), .int (nI fu_8), .int lf_8, .int (bI dd_8), .int dn_8, .int (nI 1), .int (bI true), .int (nI lg), .ref he, .int me, .ref hd, .ref hen, .ref hnd])), (hw, .inl (cI, 160, .inl M_7))] := hD.sub [1, 0] (by decide) rfl
      clear hPc hDc hFc hP1 hD1 zk zz zvm zt
      refine lv_aload_n hx hb d_Mo_confirm_39 rfl (lv_at hl 0 rfl) ?_
      refine lv_iconst (v := (nI 0)) hx hb d_Mo_confirm_40 (by decide) ?_
      refine va_put (D := (dC, dI)) (ci := 3) (v := .int (bI false)) (ty := .boolean) (C := R_Mo) (T := F_Mo) (N := 15) hx hb hts in_Mo t_Mo t_Mo_ok n_Mo hown hK hP hD hS 0 rfl rfl 8 (by decide) (hts _ kw_447) (fun _ h9 => h9) rfl (by decide +kernel) (bI_narrow _) (bI_fits _) (Nat.le_of_ble_eq_true rfl) d_Mo_confirm_41 (fun H locs hP hD hS => ?_)
      have hP : va_P (dC, dI) classes [(hm, .inr (3, [.int sc, .ref hw, .int (nI cn), .int (nI fu_8), .int lf_8, .int (bI dd_8), .int dn_8, .int (nI 1), .int (bI false), .int (nI lg), .ref he, .int me, .ref hd, .ref hen, .ref hnd])), (hw, .inl (cI, 160, .inl M_7))] H := hP
      have hD : va_D A [(hm, .inr (3, [.int sc, .ref hw, .int (nI cn), .int (nI fu_8), .int lf_8, .int (bI dd_8), .int dn_8, .int (nI 1), .int (bI false), .int (nI lg), .ref he, .int me, .ref hd, .ref hen, .ref hnd])), (hw, .inl (cI, 160, .inl M_7))] := hD
      refine lv_aload_n hx hb d_Mo_confirm_44 rfl (lv_at hl 0 rfl) ?_
      refine lv_iconst (v := (nI 0)) hx hb d_Mo_confirm_45 (by decide) ?_
      have hPc := hP.sub (ws' := [(hm, .inr (3, [.int sc, .ref hw, .int (nI cn), .int (nI fu_8), .int lf_8, .int (bI dd_8), .int dn_8, .int (nI 1), .int (bI false), .int (nI lg), .ref he, .int me, .ref hd, .ref hen, .ref hnd]))]) [0] rfl
      have hDc := hD.sub (ws' := [(hm, .inr (3, [.int sc, .ref hw, .int (nI cn), .int (nI fu_8), .int lf_8, .int (bI dd_8), .int dn_8, .int (nI 1), .int (bI false), .int (nI lg), .ref he, .int me, .ref hd, .ref hen, .ref hnd]))]) [0] (by decide) rfl
      have hFc := va_free (wc := [(hm, .inr (3, [.int sc, .ref hw, .int (nI cn), .int (nI fu_8), .int lf_8, .int (bI dd_8), .int dn_8, .int (nI 1), .int (bI false), .int (nI lg), .ref he, .int me, .ref hd, .ref hen, .ref hnd]))]) hD hS hA [0] rfl
      refine va_calli (va_runV (As := [.int (nI 0)]) (rest := []) ⟨hx, hb, hml, hown, hts⟩ (c_Mo_answer l dC dI cI (hm := hm) (g := (nI 0)) (sc := sc) (hw := hw) (cn := cn) (fu := fu_8) (lf := lf_8) (dd := dd_8) (dn := dn_8) (rn := (nI 1)) (tr := false) (lg := lg) (he := he) (me := me) (hd := hd) (hen := hen) (hnd := hnd)  (sz := H.size)) ⟨callB_of 1 hts (gd kw_563) rfl rfl rfl (hts _ kw_41) (hts _ kw_560) (by decide +kernel) ⟨Nat.le_of_ble_eq_true rfl, Nat.le_of_ble_eq_true rfl⟩, (hts _ kw_562), (hts _ kw_31)⟩ ⟨fun a U g mk q => by obtain ⟨q0, q1, qP, qK, qD⟩ := q; exact ⟨q0, q1, qP, qK.call, qD⟩, va_recv hK hP (ci := 3) rfl (q0 := 0) rfl, fun U hU hW => ⟨rfl, by rw [hU], by rw [hU]; exact hPc, hKN.warm hW, hDc.weaken (fun _ _ _ _ => trivial)⟩⟩ rfl rfl hl.1 rfl (lv_room (Nat.le_of_ble_eq_true rfl)) d_Mo_confirm_46 ⟨Nat.zero_le _, Nat.zero_le _⟩) hS (fun q _ h => hFc q h) hFc (fun r u t H1 locs zt zvm zw zB zz zk hS => ?_)
      obtain ⟨dd_9, rn_9, tr_9, lg_9, me_9⟩ := u
      obtain ⟨r_9, rfl⟩ : ∃ z, z = r := ⟨_, rfl⟩
      have hu_9 := zw
      obtain ⟨hP1, hD1⟩ := zB
      rw [zt] at hP1
      have hP1 : va_P (dC, dI) classes [(hm, .inr (3, [.int sc, .ref hw, .int (nI cn), .int (nI fu_8), .int lf_8, .int (bI dd_9), .int dn_8, .int rn_9, .int (bI tr_9), .int (nI lg_9), .ref he, .int me_9, .ref hd, .ref hen, .ref hnd]))] H1 := hP1
      obtain ⟨hP, hD⟩ := va_join (wc := [(hm, .inr (3, [.int sc, .ref hw, .int (nI cn), .int (nI fu_8), .int lf_8, .int (bI dd_8), .int dn_8, .int (nI 1), .int (bI false), .int (nI lg), .ref he, .int me, .ref hd, .ref hen, .ref hnd]))]) (wr := [(hw, .inl (cI, 160, .inl M_7))]) (w1 := [(hm, .inr (3, [.int sc, .ref hw, .int (nI cn), .int (nI fu_8), .int lf_8, .int (bI dd_9), .int dn_8, .int rn_9, .int (bI tr_9), .int (nI lg_9), .ref he, .int me_9, .ref hd, .ref hen, .ref hnd]))]) hP hD [0] [1] rfl rfl (by decide) (by decide) zk hFc hP1 hD1
      generalize H1 = H at hP hS ⊢
      have hP : va_P (dC, dI) classes [(hm, .inr (3, [.int sc, .ref hw, .int (nI cn), .int (nI fu_8), .int lf_8, .int (bI dd_9), .int dn_8, .int rn_9, .int (bI tr_9), .int (nI lg_9), .ref he, .int me_9, .ref hd, .ref hen, .ref hnd])), (hw, .inl (cI, 160, .inl M_7))] H := hP.sub [1, 0] rfl
      have hD : va_D A [(hm, .inr (3, [.int sc, .ref hw, .int (nI cn), .int (nI fu_8), .int lf_8, .int (bI dd_9), .int dn_8, .int rn_9, .int (bI tr_9), .int (nI lg_9), .ref he, .int me_9, .ref hd, .ref hen, .ref hnd])), (hw, .inl (cI, 160, .inl M_7))] := hD.sub [1, 0] (by decide) rfl
      clear hPc hDc hFc hP1 hD1 zk zz zvm zt
      exact W.iret (v := r_9) hx hb hr (fun t ht hW => ⟨⟨r_9, (rn_9, tr_9, lg_9, me_9, M_7, fu_8, dd_9, dn_8, lf_8), rfl, (by rw [moCf_1]; simp only [moCfK, hu_7, hu_8, hu_9, eq_self, reduceCtorEq, if_true, if_false, Nat.reduceSub]), by rw [ht]; exact hP, hD⟩, hS.F ht⟩) hS.2.2 d_Mo_confirm_49
    · exact absurd h_6 (by decide)
