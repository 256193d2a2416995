set_option maxHeartbeats 4000000 in
set_option maxRecDepth 100000 in
theorem c_Mo_update (l : Launch) (dC : Nat → ClassId) (dI : Nat → Nat → Nat) (cI : ClassId) (hm : Nat) (v : Int32) (sc : Int32) (hw : Nat) (cn : Nat) (fu : Nat) (lf : Int32) (dd : Bool) (dn : Int32) (rn : Int32) (tr : Bool) (lg : Nat) (he : Nat) (me : Int32) (hd : Nat) (hen : Nat) (hnd : Nat) (M : Nat → Int32) (hcn : cn ≤ 7) (hrn : rn = -1 ∨ rn = nI 0 ∨ rn = nI 1 ∨ rn = nI 2) (sz : Nat) : Met l y_Mo_update w_Mo_update ({ frames := 7, cells := 0, slots := 0, locals := 158 }) (va_Pc [.ref hm, .int v] (fun U => U.heap.size = sz ∧ va_P (dC, dI) classes [(hm, .inr (3, [.int sc, .ref hw, .int (nI cn), .int (nI fu), .int lf, .int (bI dd), .int dn, .int rn, .int (bI tr), .int (nI lg), .ref he, .int me, .ref hd, .ref hen, .ref hnd])), (hw, .inl (cI, 160, .inl M))] U.heap ∧ KN dC dI cI U ∧ va_D (fun _ => True) [(hm, .inr (3, [.int sc, .ref hw, .int (nI cn), .int (nI fu), .int lf, .int (bI dd), .int dn, .int rn, .int (bI tr), .int (nI lg), .ref he, .int me, .ref hd, .ref hen, .ref hnd])), (hw, .inl (cI, 160, .inl M))])) (va_Qi (fun (r : Int32) (u : Int32 × Bool × Nat × Int32 × (Nat → Int32) × Bool × Int32 × Int32) => moUp v cn rn tr lg me M dd dn lf = (r, u)) (fun (u : Int32 × Bool × Nat × Int32 × (Nat → Int32) × Bool × Int32 × Int32) t => va_P (dC, dI) classes [(hm, .inr (3, [.int sc, .ref hw, .int (nI cn), .int (nI fu), .int u.2.2.2.2.2.2.2, .int (bI u.2.2.2.2.2.1), .int u.2.2.2.2.2.2.1, .int u.1, .int (bI u.2.1), .int (nI u.2.2.1), .ref he, .int u.2.2.2.1, .ref hd, .ref hen, .ref hnd])), (hw, .inl (cI, 160, .inl u.2.2.2.2.1))] t.heap ∧ va_D (va_A [(hm, .inr (3, [.int sc, .ref hw, .int (nI cn), .int (nI fu), .int lf, .int (bI dd), .int dn, .int rn, .int (bI tr), .int (nI lg), .ref he, .int me, .ref hd, .ref hen, .ref hnd])), (hw, .inl (cI, 160, .inl M))] sz) [(hm, .inr (3, [.int sc, .ref hw, .int (nI cn), .int (nI fu), .int u.2.2.2.2.2.2.2, .int (bI u.2.2.2.2.2.1), .int u.2.2.2.2.2.2.1, .int u.1, .int (bI u.2.1), .int (nI u.2.2.1), .ref he, .int u.2.2.2.1, .ref hd, .ref hen, .ref hnd])), (hw, .inl (cI, 160, .inl u.2.2.2.2.1))]) (va_A [(hm, .inr (3, [.int sc, .ref hw, .int (nI cn), .int (nI fu), .int lf, .int (bI dd), .int dn, .int rn, .int (bI tr), .int (nI lg), .ref he, .int me, .ref hd, .ref hen, .ref hnd])), (hw, .inl (cI, 160, .inl M))] sz)) 0 0 (va_A [(hm, .inr (3, [.int sc, .ref hw, .int (nI cn), .int (nI fu), .int lf, .int (bI dd), .int dn, .int rn, .int (bI tr), .int (nI lg), .ref he, .int me, .ref hd, .ref hen, .ref hnd])), (hw, .inl (cI, 160, .inl M))] sz) := by
  refine Met.ofW (cc := b_Mo_update) (maxL := 4) (ret := (some .int)) (by decide) rfl ?_
  intro p e s m args below meth c s₁ B hml hv
  obtain ⟨rfl, hsz, hP, hKN, hD0⟩ := hv
  have hK := hKN.1
  have hx := B.exec
  have hb := B.bytes
  have hr := B.returns
  have hts := fun (w : Cond) (h : w ∈ gt) => atoms_spec (ws := w_Mo_update) B.pre w (List.mem_cons_of_mem _ h)
  have hown : s.vm.findClass R_Mo = some m.cls := findClass_of_methodNamed B.named
  have hlocks := B.notSynchronized
  subst hsz
  have hD := hD0.self (sz := s.heap.size)
  generalize hAe : va_A [(hm, .inr (3, [.int sc, .ref hw, .int (nI cn), .int (nI fu), .int lf, .int (bI dd), .int dn, .int rn, .int (bI tr), .int (nI lg), .ref he, .int me, .ref hd, .ref hen, .ref hnd])), (hw, .inl (cI, 160, .inl M))] s.heap.size = A at hD ⊢
  have hA : ∀ q : Nat, s.heap.size ≤ q → A q := fun q h => by rw [← hAe]; exact Or.inr h
  have hS : va_S A s.heap s.heap [] := va_S.rf
  have hP : va_P (dC, dI) classes [(hm, .inr (3, [.int sc, .ref hw, .int (nI cn), .int (nI fu), .int lf, .int (bI dd), .int dn, .int rn, .int (bI tr), .int (nI lg), .ref he, .int me, .ref hd, .ref hen, .ref hnd])), (hw, .inl (cI, 160, .inl M))] s.heap := hP
  clear hAe hD0
  have hl := lv_entry ([.ref hm, .int v]) (n := 4) (Nat.le_of_ble_eq_true rfl)
  rw [lg_entry_eq]
  generalize (lg_sl ([.ref hm, .int v]) ++ List.replicate (4 - (lg_sl ([.ref hm, .int v])).length) Slot.unset).toArray = ls at hl ⊢
  have hl : lv_has ls 4 [(0, .ref hm), (1, .int v)] := hl
  have ghm := hom_lt (ety M)
  rcases pk_or (v := v) (n := cn) (by omega) with ⟨j, hj, rfl, hjp⟩ | hbad
  · refine lv_aload_n hx hb d_Mo_update_0 rfl (lv_at hl 0 rfl) ?_
    refine lv_iload_n hx hb d_Mo_update_1 rfl (lv_at hl 1 rfl) ?_
    refine lv_iconst (v := (nI 0)) hx hb d_Mo_update_2 (by decide) ?_
    refine pr_call (va_runV (As := [.int (nI j), .int (nI 0)]) (rest := []) ⟨hx, hb, hml, hown, hts⟩ (c_Mo_noWord l dC dI cI (hm := hm) (v := (nI j)) (w := (nI 0)) (sc := sc) (hw := hw) (cn := cn) (fu := fu) (lf := lf) (dd := dd) (dn := dn) (rn := rn) (tr := tr) (lg := lg) (he := he) (me := me) (hd := hd) (hen := hen) (hnd := hnd) ) ⟨callB_of 2 hts (gd kw_500) rfl rfl rfl (hts _ kw_41) (hts _ kw_497) (by decide +kernel) ⟨Nat.le_of_ble_eq_true rfl, Nat.le_of_ble_eq_true rfl⟩, (hts _ kw_499), (hts _ kw_22)⟩ ⟨fun a U g mk q => by obtain ⟨q0, qP, qK⟩ := q; exact ⟨q0, qP, qK.call⟩, va_recv hK hP (ci := 3) rfl (q0 := 0) rfl, fun U hU hW => ⟨rfl, by rw [hU]; exact hP.sub [0] rfl, hKN.warm hW⟩⟩ rfl rfl hl.1 rfl (lv_room (Nat.le_of_ble_eq_true rfl)) d_Mo_update_3 ⟨Nat.zero_le _, Nat.zero_le _⟩) ?_
    refine tp (congrArg bI (noW_0 _ _)) ?_
    refine bz_ne (tgt := 24) hx hb d_Mo_update_6 (by decide) (fun h_1 => ?_) (fun h_1 => ?_)
    · simp [hjp] at h_1
    · refine lv_aload_n hx hb d_Mo_update_9 rfl (lv_at hl 0 rfl) ?_
      refine va_get (D := (dC, dI)) (ci := 3) (v := .int rn) (C := R_Mo) (T := F_Mo) (N := 15) hx hb hts in_Mo hown hK hP 0 rfl rfl 7 (by decide) (hts _ kw_446) (fun _ h9 => h9) rfl d_Mo_update_10 ?_
      refine lv_iconst (v := (-1)) hx hb d_Mo_update_13 (by decide) ?_
      refine lv_icmp_eq (tgt := 24) hx hb d_Mo_update_14 (by decide) (fun h_2 => ?_) (fun h_2 => ?_)
      · refine lv_bipush (v := (-2)) hx hb d_Mo_update_24 (by decide) ?_
        exact W.iret (v := (-2)) hx hb hr (fun t ht hW => ⟨⟨(-2), (rn, tr, lg, me, M, dd, dn, lf), rfl, (by rw [moUp, hjp, nI_clamp (by omega)]; simp only [moUK, kept, h_1, if_pos h_2, eq_self, reduceCtorEq, if_true, if_false, Nat.reduceSub]), by rw [ht]; exact hP, hD⟩, hS.F ht⟩) hS.2.2 d_Mo_update_26
      · refine lv_aload_n hx hb d_Mo_update_17 rfl (lv_at hl 0 rfl) ?_
        refine va_get (D := (dC, dI)) (ci := 3) (v := .int (bI tr)) (C := R_Mo) (T := F_Mo) (N := 15) hx hb hts in_Mo hown hK hP 0 rfl rfl 8 (by decide) (hts _ kw_447) (fun _ h9 => h9) rfl d_Mo_update_18 ?_
        refine bz_eq (tgt := 27) hx hb d_Mo_update_21 (by decide) (fun h_3 => ?_) (fun h_3 => ?_)
        · refine lv_aload_n hx hb d_Mo_update_27 rfl (lv_at hl 0 rfl) ?_
          refine va_get (D := (dC, dI)) (ci := 3) (v := .int rn) (C := R_Mo) (T := F_Mo) (N := 15) hx hb hts in_Mo hown hK hP 0 rfl rfl 7 (by decide) (hts _ kw_446) (fun _ h9 => h9) rfl d_Mo_update_28 ?_
          refine lv_iconst (v := (nI 2)) hx hb d_Mo_update_31 (by decide) ?_
          refine lv_icmp_ne (tgt := 44) hx hb d_Mo_update_32 (by decide) (fun h_4 => ?_) (fun h_4 => ?_)
          · refine lv_iconst (v := (nI 1)) hx hb d_Mo_update_44 (by decide) ?_
            refine lv_aload_n hx hb d_Mo_update_45 rfl (lv_at hl 0 rfl) ?_
            refine va_get (D := (dC, dI)) (ci := 3) (v := .int rn) (C := R_Mo) (T := F_Mo) (N := 15) hx hb hts in_Mo hown hK hP 0 rfl rfl 7 (by decide) (hts _ kw_446) (fun _ h9 => h9) rfl d_Mo_update_46 ?_
            obtain rfl | rfl := rn_01 hrn h_2 h_4
            · refine lv_isub hx hb d_Mo_update_49 ?_
              refine tp (y := (nI 1)) (by decide) ?_
              refine lv_istore_n (lv' := [(2, .int (nI 1)), (0, .ref hm), (1, .int (nI j))]) hx hb d_Mo_update_50 rfl hl (by decide) rfl (fun ls hl => ?_)
              refine lv_aload_n hx hb d_Mo_update_51 rfl (lv_at hl 1 rfl) ?_
              refine lv_iload_n hx hb d_Mo_update_52 rfl (lv_at hl 0 rfl) ?_
              refine lv_iconst (v := (nI 0)) hx hb d_Mo_update_53 (by decide) ?_
              refine lv_iconst (v := (nI 1)) hx hb d_Mo_update_54 (by decide) ?_
              refine lv_iload_n hx hb d_Mo_update_55 rfl (lv_at hl 0 rfl) ?_
              refine lv_isub hx hb d_Mo_update_56 ?_
              refine tp (y := (nI 0)) (by decide) ?_
              have hPc := hP.sub (ws' := [(hm, .inr (3, [.int sc, .ref hw, .int (nI cn), .int (nI fu), .int lf, .int (bI dd), .int dn, .int (nI 0), .int (bI tr), .int (nI lg), .ref he, .int me, .ref hd, .ref hen, .ref hnd])), (hw, .inl (cI, 160, .inl M))]) [0, 1] rfl
              have hDc := hD.sub (ws' := [(hm, .inr (3, [.int sc, .ref hw, .int (nI cn), .int (nI fu), .int lf, .int (bI dd), .int dn, .int (nI 0), .int (bI tr), .int (nI lg), .ref he, .int me, .ref hd, .ref hen, .ref hnd])), (hw, .inl (cI, 160, .inl M))]) [0, 1] (by decide) rfl
              have hFc := va_free (wc := [(hm, .inr (3, [.int sc, .ref hw, .int (nI cn), .int (nI fu), .int lf, .int (bI dd), .int dn, .int (nI 0), .int (bI tr), .int (nI lg), .ref he, .int me, .ref hd, .ref hen, .ref hnd])), (hw, .inl (cI, 160, .inl M))]) hD hS hA [0, 1] rfl
              refine va_callv (va_runV (As := [.int (nI 1), .int (nI 0), .int (nI 0)]) (rest := []) ⟨hx, hb, hml, hown, hts⟩ (c_Mo_table l dC dI cI (hm := hm) (k := 1) (v := 0) (g := 0) (sc := sc) (hw := hw) (cn := cn) (fu := fu) (lf := lf) (dd := dd) (dn := dn) (rn := (nI 0)) (tr := tr) (lg := lg) (he := he) (me := me) (hd := hd) (hen := hen) (hnd := hnd) (M := M) (hk := (by omega)) (sz := s.heap.size)) ⟨callB_of 3 hts (gd kw_550) rfl rfl rfl (hts _ kw_41) (hts _ kw_547) (by decide +kernel) ⟨Nat.le_of_ble_eq_true rfl, Nat.le_of_ble_eq_true rfl⟩, (hts _ kw_549), (hts _ kw_28)⟩ ⟨fun a U g mk q => by obtain ⟨q0, q1, qP, qK, qD⟩ := q; exact ⟨q0, q1, qP, qK.call, qD⟩, va_recv hK hP (ci := 3) rfl (q0 := 0) rfl, fun U hU hW => ⟨rfl, by rw [hU], by rw [hU]; exact hPc, hKN.warm hW, hDc.weaken (fun _ _ _ _ => trivial)⟩⟩ rfl rfl hl.1 rfl (lv_room (Nat.le_of_ble_eq_true rfl)) d_Mo_update_57 ⟨Nat.zero_le _, Nat.zero_le _⟩) hS (fun q _ h => hFc q h) hFc (fun u t H1 locs zt zvm zw zB zz zk hS => ?_)
              obtain ⟨M_5, dd_5, dn_5, lf_5⟩ := u
              have hu_5 := zw
              obtain ⟨hP1, hD1⟩ := zB
              rw [zt] at hP1
              have hP1 : va_P (dC, dI) classes [(hm, .inr (3, [.int sc, .ref hw, .int (nI cn), .int (nI fu), .int lf_5, .int (bI dd_5), .int dn_5, .int (nI 0), .int (bI tr), .int (nI lg), .ref he, .int me, .ref hd, .ref hen, .ref hnd])), (hw, .inl (cI, 160, .inl M_5))] H1 := hP1
              obtain ⟨hP, hD⟩ := va_join (wc := [(hm, .inr (3, [.int sc, .ref hw, .int (nI cn), .int (nI fu), .int lf, .int (bI dd), .int dn, .int (nI 0), .int (bI tr), .int (nI lg), .ref he, .int me, .ref hd, .ref hen, .ref hnd])), (hw, .inl (cI, 160, .inl M))]) (wr := []) (w1 := [(hm, .inr (3, [.int sc, .ref hw, .int (nI cn), .int (nI fu), .int lf_5, .int (bI dd_5), .int dn_5, .int (nI 0), .int (bI tr), .int (nI lg), .ref he, .int me, .ref hd, .ref hen, .ref hnd])), (hw, .inl (cI, 160, .inl M_5))]) hP hD [0, 1] [] rfl rfl (by decide) (by decide) zk hFc hP1 hD1
              generalize H1 = H at hP hS ⊢
              have hP : va_P (dC, dI) classes [(hm, .inr (3, [.int sc, .ref hw, .int (nI cn), .int (nI fu), .int lf_5, .int (bI dd_5), .int dn_5, .int (nI 0), .int (bI tr), .int (nI lg), .ref he, .int me, .ref hd, .ref hen, .ref hnd])), (hw, .inl (cI, 160, .inl M_5))] H := hP.sub [0, 1] rfl
              have hD : va_D A [(hm, .inr (3, [.int sc, .ref hw, .int (nI cn), .int (nI fu), .int lf_5, .int (bI dd_5), .int dn_5, .int (nI 0), .int (bI tr), .int (nI lg), .ref he, .int me, .ref hd, .ref hen, .ref hnd])), (hw, .inl (cI, 160, .inl M_5))] := hD.sub [0, 1] (by decide) rfl
              clear hPc hDc hFc hP1 hD1 zk zz zvm zt
              refine lv_iconst (v := (nI 0)) hx hb d_Mo_update_60 (by decide) ?_
              refine lv_istore_n (lv' := [(3, .int (nI 0)), (2, .int (nI 1)), (0, .ref hm), (1, .int (nI j))]) hx hb d_Mo_update_61 rfl hl (by decide) rfl (fun ls hl => ?_)
              refine wloop (ι := Nat × (Nat → Int32) × Bool × Int32 × Int32) (fun i => 17 - (i.1)) (fun i ls H locs => ((i.1) ≤ 17 ∧ mWp (40 + 17 * j) (17 * 1) 17 0 (M_5, dd_5, dn_5, lf_5) = mWp (40 + 17 * j) (17 * 1) (17 - (i.1)) (i.1) ((i.2.1), (i.2.2.1), (i.2.2.2.1), (i.2.2.2.2))) ∧ lv_has ls 4 [(3, .int (nI (i.1))), (2, .int (nI 1)), (0, .ref hm), (1, .int (nI j))] ∧ va_P (dC, dI) classes [(hm, .inr (3, [.int sc, .ref hw, .int (nI cn), .int (nI fu), .int (i.2.2.2.2), .int (bI (i.2.2.1)), .int (i.2.2.2.1), .int (nI 0), .int (bI tr), .int (nI lg), .ref he, .int me, .ref hd, .ref hen, .ref hnd])), (hw, .inl (cI, 160, .inl (i.2.1)))] H ∧ va_D A [(hm, .inr (3, [.int sc, .ref hw, .int (nI cn), .int (nI fu), .int (i.2.2.2.2), .int (bI (i.2.2.1)), .int (i.2.2.2.1), .int (nI 0), .int (bI tr), .int (nI lg), .ref he, .int me, .ref hd, .ref hen, .ref hnd])), (hw, .inl (cI, 160, .inl (i.2.1)))] ∧ va_S A s.heap H locs) ?_ (0, M_5, dd_5, dn_5, lf_5) ⟨⟨by omega, rfl⟩, hl, hP, hD, hS⟩
              clear hl hP hD hS
              rintro ⟨k, M2, dd2, dn2, lf2⟩ ls H locs ⟨hinv, hl, hP, hD, hS⟩ ih
              dsimp only at hinv hl ih hP hD
              refine lv_iload_n hx hb d_Mo_update_62 rfl (lv_at hl 0 rfl) ?_
              refine lv_bipush (v := (nI 17)) hx hb d_Mo_update_63 (by decide) ?_
              refine nb_ge (tgt := 98) hx hb d_Mo_update_65 (by decide) (by first | omega | exact Nat.lt_of_lt_of_le (stt_lt _ _) (by decide)) (by first | omega | exact Nat.lt_of_lt_of_le (stt_lt _ _) (by decide)) (fun h_6 => ?_) (fun h_6 => ?_)
              · have hwp := hinv.2
                rw [show 17 - k = 0 by omega, mWp] at hwp
                refine lv_aload_n hx hb d_Mo_update_98 rfl (lv_at hl 2 rfl) ?_
                refine lv_iload_n hx hb d_Mo_update_99 rfl (lv_at hl 1 rfl) ?_
                refine lv_iconst (v := (nI 2)) hx hb d_Mo_update_100 (by decide) ?_
                refine lv_aload_n hx hb d_Mo_update_101 rfl (lv_at hl 2 rfl) ?_
                refine pr_call (va_runV (As := []) (rest := [.int (nI 2), .int (nI 1), .ref hm]) ⟨hx, hb, hml, hown, hts⟩ (c_Mo_home l dC dI cI (hm := hm) (sc := sc) (hw := hw) (cn := cn) (fu := fu) (lf := lf2) (dd := dd2) (dn := dn2) (rn := (nI 0)) (tr := tr) (lg := lg) (he := he) (me := me) (hd := hd) (hen := hen) (hnd := hnd) (M := M2) ) ⟨callB_of 0 hts (gd kw_525) rfl rfl rfl (hts _ kw_41) (hts _ kw_546) (by decide +kernel) ⟨Nat.le_of_ble_eq_true rfl, Nat.le_of_ble_eq_true rfl⟩, (hts _ kw_523), (hts _ kw_524)⟩ ⟨fun a U g mk q => by obtain ⟨q0, qP, qK⟩ := q; exact ⟨q0, qP, qK.call⟩, va_recv hK hP (ci := 3) rfl (q0 := 0) rfl, fun U hU hW => ⟨rfl, by rw [hU]; exact hP.sub [0, 1] rfl, hKN.warm hW⟩⟩ rfl rfl hl.1 rfl (lv_room (Nat.le_of_ble_eq_true rfl)) d_Mo_update_102 ⟨Nat.zero_le _, Nat.zero_le _⟩) ?_
                have hPc := hP.sub (ws' := [(hm, .inr (3, [.int sc, .ref hw, .int (nI cn), .int (nI fu), .int lf2, .int (bI dd2), .int dn2, .int (nI 0), .int (bI tr), .int (nI lg), .ref he, .int me, .ref hd, .ref hen, .ref hnd])), (hw, .inl (cI, 160, .inl M2))]) [0, 1] rfl
                have hDc := hD.sub (ws' := [(hm, .inr (3, [.int sc, .ref hw, .int (nI cn), .int (nI fu), .int lf2, .int (bI dd2), .int dn2, .int (nI 0), .int (bI tr), .int (nI lg), .ref he, .int me, .ref hd, .ref hen, .ref hnd])), (hw, .inl (cI, 160, .inl M2))]) [0, 1] (by decide) rfl
                have hFc := va_free (wc := [(hm, .inr (3, [.int sc, .ref hw, .int (nI cn), .int (nI fu), .int lf2, .int (bI dd2), .int dn2, .int (nI 0), .int (bI tr), .int (nI lg), .ref he, .int me, .ref hd, .ref hen, .ref hnd])), (hw, .inl (cI, 160, .inl M2))]) hD hS hA [0, 1] rfl
                refine va_callv (va_runV (As := [.int (nI 1), .int (nI 2), .int (nI (hom (ety M2)))]) (rest := []) ⟨hx, hb, hml, hown, hts⟩ (c_Mo_table l dC dI cI (hm := hm) (k := 1) (v := 2) (g := hom (ety M2)) (sc := sc) (hw := hw) (cn := cn) (fu := fu) (lf := lf2) (dd := dd2) (dn := dn2) (rn := (nI 0)) (tr := tr) (lg := lg) (he := he) (me := me) (hd := hd) (hen := hen) (hnd := hnd) (M := M2) (hk := (by omega)) (sz := H.size)) ⟨callB_of 3 hts (gd kw_550) rfl rfl rfl (hts _ kw_41) (hts _ kw_547) (by decide +kernel) ⟨Nat.le_of_ble_eq_true rfl, Nat.le_of_ble_eq_true rfl⟩, (hts _ kw_549), (hts _ kw_28)⟩ ⟨fun a U g mk q => by obtain ⟨q0, q1, qP, qK, qD⟩ := q; exact ⟨q0, q1, qP, qK.call, qD⟩, va_recv hK hP (ci := 3) rfl (q0 := 0) rfl, fun U hU hW => ⟨rfl, by rw [hU], by rw [hU]; exact hPc, hKN.warm hW, hDc.weaken (fun _ _ _ _ => trivial)⟩⟩ rfl rfl hl.1 rfl (lv_room (Nat.le_of_ble_eq_true rfl)) d_Mo_update_105 ⟨Nat.zero_le _, Nat.zero_le _⟩) hS (fun q _ h => hFc q h) hFc (fun u t H1 locs zt zvm zw zB zz zk hS => ?_)
                obtain ⟨M_7, dd_7, dn_7, lf_7⟩ := u
                have hu_7 := zw
                obtain ⟨hP1, hD1⟩ := zB
                rw [zt] at hP1
                have hP1 : va_P (dC, dI) classes [(hm, .inr (3, [.int sc, .ref hw, .int (nI cn), .int (nI fu), .int lf_7, .int (bI dd_7), .int dn_7, .int (nI 0), .int (bI tr), .int (nI lg), .ref he, .int me, .ref hd, .ref hen, .ref hnd])), (hw, .inl (cI, 160, .inl M_7))] H1 := hP1
                obtain ⟨hP, hD⟩ := va_join (wc := [(hm, .inr (3, [.int sc, .ref hw, .int (nI cn), .int (nI fu), .int lf2, .int (bI dd2), .int dn2, .int (nI 0), .int (bI tr), .int (nI lg), .ref he, .int me, .ref hd, .ref hen, .ref hnd])), (hw, .inl (cI, 160, .inl M2))]) (wr := []) (w1 := [(hm, .inr (3, [.int sc, .ref hw, .int (nI cn), .int (nI fu), .int lf_7, .int (bI dd_7), .int dn_7, .int (nI 0), .int (bI tr), .int (nI lg), .ref he, .int me, .ref hd, .ref hen, .ref hnd])), (hw, .inl (cI, 160, .inl M_7))]) hP hD [0, 1] [] rfl rfl (by decide) (by decide) zk hFc hP1 hD1
                generalize H1 = H at hP hS ⊢
                have hP : va_P (dC, dI) classes [(hm, .inr (3, [.int sc, .ref hw, .int (nI cn), .int (nI fu), .int lf_7, .int (bI dd_7), .int dn_7, .int (nI 0), .int (bI tr), .int (nI lg), .ref he, .int me, .ref hd, .ref hen, .ref hnd])), (hw, .inl (cI, 160, .inl M_7))] H := hP.sub [0, 1] rfl
                have hD : va_D A [(hm, .inr (3, [.int sc, .ref hw, .int (nI cn), .int (nI fu), .int lf_7, .int (bI dd_7), .int dn_7, .int (nI 0), .int (bI tr), .int (nI lg), .ref he, .int me, .ref hd, .ref hen, .ref hnd])), (hw, .inl (cI, 160, .inl M_7))] := hD.sub [0, 1] (by decide) rfl
                clear hPc hDc hFc hP1 hD1 zk zz zvm zt
                refine lv_aload_n hx hb d_Mo_update_108 rfl (lv_at hl 2 rfl) ?_
                refine lv_iconst (v := (nI 0)) hx hb d_Mo_update_109 (by decide) ?_
                have hPc := hP.sub (ws' := [(hm, .inr (3, [.int sc, .ref hw, .int (nI cn), .int (nI fu), .int lf_7, .int (bI dd_7), .int dn_7, .int (nI 0), .int (bI tr), .int (nI lg), .ref he, .int me, .ref hd, .ref hen, .ref hnd]))]) [0] rfl
                have hDc := hD.sub (ws' := [(hm, .inr (3, [.int sc, .ref hw, .int (nI cn), .int (nI fu), .int lf_7, .int (bI dd_7), .int dn_7, .int (nI 0), .int (bI tr), .int (nI lg), .ref he, .int me, .ref hd, .ref hen, .ref hnd]))]) [0] (by decide) rfl
                have hFc := va_free (wc := [(hm, .inr (3, [.int sc, .ref hw, .int (nI cn), .int (nI fu), .int lf_7, .int (bI dd_7), .int dn_7, .int (nI 0), .int (bI tr), .int (nI lg), .ref he, .int me, .ref hd, .ref hen, .ref hnd]))]) hD hS hA [0] rfl
                refine va_calli (va_runV (As := [.int (nI 0)]) (rest := []) ⟨hx, hb, hml, hown, hts⟩ (c_Mo_answer l dC dI cI (hm := hm) (g := (nI 0)) (sc := sc) (hw := hw) (cn := cn) (fu := fu) (lf := lf_7) (dd := dd_7) (dn := dn_7) (rn := (nI 0)) (tr := tr) (lg := lg) (he := he) (me := me) (hd := hd) (hen := hen) (hnd := hnd)  (sz := H.size)) ⟨callB_of 1 hts (gd kw_563) rfl rfl rfl (hts _ kw_41) (hts _ kw_560) (by decide +kernel) ⟨Nat.le_of_ble_eq_true rfl, Nat.le_of_ble_eq_true rfl⟩, (hts _ kw_562), (hts _ kw_31)⟩ ⟨fun a U g mk q => by obtain ⟨q0, q1, qP, qK, qD⟩ := q; exact ⟨q0, q1, qP, qK.call, qD⟩, va_recv hK hP (ci := 3) rfl (q0 := 0) rfl, fun U hU hW => ⟨rfl, by rw [hU], by rw [hU]; exact hPc, hKN.warm hW, hDc.weaken (fun _ _ _ _ => trivial)⟩⟩ rfl rfl hl.1 rfl (lv_room (Nat.le_of_ble_eq_true rfl)) d_Mo_update_110 ⟨Nat.zero_le _, Nat.zero_le _⟩) hS (fun q _ h => hFc q h) hFc (fun r u t H1 locs zt zvm zw zB zz zk hS => ?_)
                obtain ⟨dd_8, rn_8, tr_8, lg_8, me_8⟩ := u
                obtain ⟨r_8, rfl⟩ : ∃ z, z = r := ⟨_, rfl⟩
                have hu_8 := zw
                obtain ⟨hP1, hD1⟩ := zB
                rw [zt] at hP1
                have hP1 : va_P (dC, dI) classes [(hm, .inr (3, [.int sc, .ref hw, .int (nI cn), .int (nI fu), .int lf_7, .int (bI dd_8), .int dn_7, .int rn_8, .int (bI tr_8), .int (nI lg_8), .ref he, .int me_8, .ref hd, .ref hen, .ref hnd]))] H1 := hP1
                obtain ⟨hP, hD⟩ := va_join (wc := [(hm, .inr (3, [.int sc, .ref hw, .int (nI cn), .int (nI fu), .int lf_7, .int (bI dd_7), .int dn_7, .int (nI 0), .int (bI tr), .int (nI lg), .ref he, .int me, .ref hd, .ref hen, .ref hnd]))]) (wr := [(hw, .inl (cI, 160, .inl M_7))]) (w1 := [(hm, .inr (3, [.int sc, .ref hw, .int (nI cn), .int (nI fu), .int lf_7, .int (bI dd_8), .int dn_7, .int rn_8, .int (bI tr_8), .int (nI lg_8), .ref he, .int me_8, .ref hd, .ref hen, .ref hnd]))]) hP hD [0] [1] rfl rfl (by decide) (by decide) zk hFc hP1 hD1
                generalize H1 = H at hP hS ⊢
                have hP : va_P (dC, dI) classes [(hm, .inr (3, [.int sc, .ref hw, .int (nI cn), .int (nI fu), .int lf_7, .int (bI dd_8), .int dn_7, .int rn_8, .int (bI tr_8), .int (nI lg_8), .ref he, .int me_8, .ref hd, .ref hen, .ref hnd])), (hw, .inl (cI, 160, .inl M_7))] H := hP.sub [1, 0] rfl
                have hD : va_D A [(hm, .inr (3, [.int sc, .ref hw, .int (nI cn), .int (nI fu), .int lf_7, .int (bI dd_8), .int dn_7, .int rn_8, .int (bI tr_8), .int (nI lg_8), .ref he, .int me_8, .ref hd, .ref hen, .ref hnd])), (hw, .inl (cI, 160, .inl M_7))] := hD.sub [1, 0] (by decide) rfl
                clear hPc hDc hFc hP1 hD1 zk zz zvm zt
                exact W.iret (v := r_8) hx hb hr (fun t ht hW => ⟨⟨r_8, (rn_8, tr_8, lg_8, me_8, M_7, dd_8, dn_7, lf_7), rfl, (by rw [moUp, hjp, nI_clamp (by omega)]; simp only [moUK, kept_0, h_1, if_neg h_2, if_neg (fun z : tr = true => absurd (h_3.symm.trans z) (by decide)), if_neg h_4, hu_5, if_pos h_6, hwp, hu_7, hu_8, eq_self, reduceCtorEq, if_true, if_false, Nat.reduceSub]), by rw [ht]; exact hP, hD⟩, hS.F ht⟩) hS.2.2 d_Mo_update_113
              · refine lv_aload_n hx hb d_Mo_update_68 rfl (lv_at hl 2 rfl) ?_
                refine lv_bipush (v := (nI 17)) hx hb d_Mo_update_69 (by decide) ?_
                refine lv_iload_n hx hb d_Mo_update_71 rfl (lv_at hl 1 rfl) ?_
                refine lv_imul hx hb d_Mo_update_72 ?_
                refine tp (pk_mul _ _) ?_
                refine lv_iload_n hx hb d_Mo_update_73 rfl (lv_at hl 0 rfl) ?_
                refine lv_iadd hx hb d_Mo_update_74 ?_
                refine tp (nI_add _ _) ?_
                refine lv_aload_n hx hb d_Mo_update_75 rfl (lv_at hl 2 rfl) ?_
                refine va_get (D := (dC, dI)) (ci := 3) (v := .ref hw) (C := R_Mo) (T := F_Mo) (N := 15) hx hb hts in_Mo hown hK hP 0 rfl rfl 1 (by decide) (hts _ kw_440) (fun _ h9 => h9) rfl d_Mo_update_76 ?_
                refine lv_bipush (v := (nI 40)) hx hb d_Mo_update_79 (by decide) ?_
                refine lv_bipush (v := (nI 17)) hx hb d_Mo_update_81 (by decide) ?_
                refine lv_iload_n hx hb d_Mo_update_83 rfl (lv_at hl 3 rfl) ?_
                refine lv_imul hx hb d_Mo_update_84 ?_
                refine tp (pk_mul _ _) ?_
                refine lv_iadd hx hb d_Mo_update_85 ?_
                refine tp (nI_add _ _) ?_
                refine lv_iload_n hx hb d_Mo_update_86 rfl (lv_at hl 0 rfl) ?_
                refine lv_iadd hx hb d_Mo_update_87 ?_
                refine tp (nI_add _ _) ?_
                refine ar_ld (k := (40 + (17 * j)) + k) hx hb hK hP 1 0 rfl rfl (by omega) (by first | decide | omega) d_Mo_update_88 ?_
                have hPc := hP.sub (ws' := [(hm, .inr (3, [.int sc, .ref hw, .int (nI cn), .int (nI fu), .int lf2, .int (bI dd2), .int dn2, .int (nI 0), .int (bI tr), .int (nI lg), .ref he, .int me, .ref hd, .ref hen, .ref hnd])), (hw, .inl (cI, 160, .inl M2))]) [0, 1] rfl
                have hDc := hD.sub (ws' := [(hm, .inr (3, [.int sc, .ref hw, .int (nI cn), .int (nI fu), .int lf2, .int (bI dd2), .int dn2, .int (nI 0), .int (bI tr), .int (nI lg), .ref he, .int me, .ref hd, .ref hen, .ref hnd])), (hw, .inl (cI, 160, .inl M2))]) [0, 1] (by decide) rfl
                have hFc := va_free (wc := [(hm, .inr (3, [.int sc, .ref hw, .int (nI cn), .int (nI fu), .int lf2, .int (bI dd2), .int dn2, .int (nI 0), .int (bI tr), .int (nI lg), .ref he, .int me, .ref hd, .ref hen, .ref hnd])), (hw, .inl (cI, 160, .inl M2))]) hD hS hA [0, 1] rfl
                refine va_callv (va_runV (As := [.int (nI ((17 * 1) + k)), .int (M2 ((40 + (17 * j)) + k))]) (rest := []) ⟨hx, hb, hml, hown, hts⟩ (c_Mo_put l dC dI cI (hm := hm) (k := (17 * 1) + k) (x := M2 ((40 + (17 * j)) + k)) (sc := sc) (hw := hw) (cn := cn) (fu := fu) (lf := lf2) (dd := dd2) (dn := dn2) (rn := (nI 0)) (tr := tr) (lg := lg) (he := he) (me := me) (hd := hd) (hen := hen) (hnd := hnd) (M := M2) (hk := (by omega)) (sz := H.size)) ⟨callB_of 2 hts (gd kw_555) rfl rfl rfl (hts _ kw_41) (hts _ kw_552) (by decide +kernel) ⟨Nat.le_of_ble_eq_true rfl, Nat.le_of_ble_eq_true rfl⟩, (hts _ kw_554), (hts _ kw_29)⟩ ⟨fun a U g mk q => by obtain ⟨q0, q1, qP, qK, qD⟩ := q; exact ⟨q0, q1, qP, qK.call, qD⟩, va_recv hK hP (ci := 3) rfl (q0 := 0) rfl, fun U hU hW => ⟨rfl, by rw [hU], by rw [hU]; exact hPc, hKN.warm hW, hDc.weaken (fun _ _ _ _ => trivial)⟩⟩ rfl rfl hl.1 rfl (lv_room (Nat.le_of_ble_eq_true rfl)) d_Mo_update_89 ⟨Nat.zero_le _, Nat.zero_le _⟩) hS (fun q _ h => hFc q h) hFc (fun u t H1 locs zt zvm zw zB zz zk hS => ?_)
                obtain ⟨M_9, dd_9, dn_9, lf_9⟩ := u
                have hu_9 := zw
                obtain ⟨hP1, hD1⟩ := zB
                rw [zt] at hP1
                have hP1 : va_P (dC, dI) classes [(hm, .inr (3, [.int sc, .ref hw, .int (nI cn), .int (nI fu), .int lf_9, .int (bI dd_9), .int dn_9, .int (nI 0), .int (bI tr), .int (nI lg), .ref he, .int me, .ref hd, .ref hen, .ref hnd])), (hw, .inl (cI, 160, .inl M_9))] H1 := hP1
                obtain ⟨hP, hD⟩ := va_join (wc := [(hm, .inr (3, [.int sc, .ref hw, .int (nI cn), .int (nI fu), .int lf2, .int (bI dd2), .int dn2, .int (nI 0), .int (bI tr), .int (nI lg), .ref he, .int me, .ref hd, .ref hen, .ref hnd])), (hw, .inl (cI, 160, .inl M2))]) (wr := []) (w1 := [(hm, .inr (3, [.int sc, .ref hw, .int (nI cn), .int (nI fu), .int lf_9, .int (bI dd_9), .int dn_9, .int (nI 0), .int (bI tr), .int (nI lg), .ref he, .int me, .ref hd, .ref hen, .ref hnd])), (hw, .inl (cI, 160, .inl M_9))]) hP hD [0, 1] [] rfl rfl (by decide) (by decide) zk hFc hP1 hD1
                generalize H1 = H at hP hS ⊢
                have hP : va_P (dC, dI) classes [(hm, .inr (3, [.int sc, .ref hw, .int (nI cn), .int (nI fu), .int lf_9, .int (bI dd_9), .int dn_9, .int (nI 0), .int (bI tr), .int (nI lg), .ref he, .int me, .ref hd, .ref hen, .ref hnd])), (hw, .inl (cI, 160, .inl M_9))] H := hP.sub [0, 1] rfl
                have hD : va_D A [(hm, .inr (3, [.int sc, .ref hw, .int (nI cn), .int (nI fu), .int lf_9, .int (bI dd_9), .int dn_9, .int (nI 0), .int (bI tr), .int (nI lg), .ref he, .int me, .ref hd, .ref hen, .ref hnd])), (hw, .inl (cI, 160, .inl M_9))] := hD.sub [0, 1] (by decide) rfl
                clear hPc hDc hFc hP1 hD1 zk zz zvm zt
                refine lv_iinc (k := 0) (v := (nI (k + 1))) (lv' := [(3, .int (nI (k + 1))), (2, .int (nI 1)), (0, .ref hm), (1, .int (nI j))]) hx hb d_Mo_update_92 hl rfl (nI_inc _) (by decide) rfl (fun ls hl => ?_)
                refine lv_goto (tgt := 62) hx hb d_Mo_update_95 (by decide) ?_
                exact ih (k + 1, M_9, dd_9, dn_9, lf_9) ls H locs (by show 17 - (k + 1) < 17 - k; omega) ⟨⟨by (try dsimp only); omega, by rw [hinv.2, show 17 - k = (17 - (k + 1)) + 1 by omega, mWp]; dsimp only; rw [hu_9]⟩, hl, hP, hD, hS⟩
            · refine lv_isub hx hb d_Mo_update_49 ?_
              refine tp (y := (nI 0)) (by decide) ?_
              refine lv_istore_n (lv' := [(2, .int (nI 0)), (0, .ref hm), (1, .int (nI j))]) hx hb d_Mo_update_50 rfl hl (by decide) rfl (fun ls hl => ?_)
              refine lv_aload_n hx hb d_Mo_update_51 rfl (lv_at hl 1 rfl) ?_
              refine lv_iload_n hx hb d_Mo_update_52 rfl (lv_at hl 0 rfl) ?_
              refine lv_iconst (v := (nI 0)) hx hb d_Mo_update_53 (by decide) ?_
              refine lv_iconst (v := (nI 1)) hx hb d_Mo_update_54 (by decide) ?_
              refine lv_iload_n hx hb d_Mo_update_55 rfl (lv_at hl 0 rfl) ?_
              refine lv_isub hx hb d_Mo_update_56 ?_
              refine tp (y := (nI 1)) (by decide) ?_
              have hPc := hP.sub (ws' := [(hm, .inr (3, [.int sc, .ref hw, .int (nI cn), .int (nI fu), .int lf, .int (bI dd), .int dn, .int (nI 1), .int (bI tr), .int (nI lg), .ref he, .int me, .ref hd, .ref hen, .ref hnd])), (hw, .inl (cI, 160, .inl M))]) [0, 1] rfl
              have hDc := hD.sub (ws' := [(hm, .inr (3, [.int sc, .ref hw, .int (nI cn), .int (nI fu), .int lf, .int (bI dd), .int dn, .int (nI 1), .int (bI tr), .int (nI lg), .ref he, .int me, .ref hd, .ref hen, .ref hnd])), (hw, .inl (cI, 160, .inl M))]) [0, 1] (by decide) rfl
              have hFc := va_free (wc := [(hm, .inr (3, [.int sc, .ref hw, .int (nI cn), .int (nI fu), .int lf, .int (bI dd), .int dn, .int (nI 1), .int (bI tr), .int (nI lg), .ref he, .int me, .ref hd, .ref hen, .ref hnd])), (hw, .inl (cI, 160, .inl M))]) hD hS hA [0, 1] rfl
              refine va_callv (va_runV (As := [.int (nI 0), .int (nI 0), .int (nI 1)]) (rest := []) ⟨hx, hb, hml, hown, hts⟩ (c_Mo_table l dC dI cI (hm := hm) (k := 0) (v := 0) (g := 1) (sc := sc) (hw := hw) (cn := cn) (fu := fu) (lf := lf) (dd := dd) (dn := dn) (rn := (nI 1)) (tr := tr) (lg := lg) (he := he) (me := me) (hd := hd) (hen := hen) (hnd := hnd) (M := M) (hk := (by omega)) (sz := s.heap.size)) ⟨callB_of 3 hts (gd kw_550) rfl rfl rfl (hts _ kw_41) (hts _ kw_547) (by decide +kernel) ⟨Nat.le_of_ble_eq_true rfl, Nat.le_of_ble_eq_true rfl⟩, (hts _ kw_549), (hts _ kw_28)⟩ ⟨fun a U g mk q => by obtain ⟨q0, q1, qP, qK, qD⟩ := q; exact ⟨q0, q1, qP, qK.call, qD⟩, va_recv hK hP (ci := 3) rfl (q0 := 0) rfl, fun U hU hW => ⟨rfl, by rw [hU], by rw [hU]; exact hPc, hKN.warm hW, hDc.weaken (fun _ _ _ _ => trivial)⟩⟩ rfl rfl hl.1 rfl (lv_room (Nat.le_of_ble_eq_true rfl)) d_Mo_update_57 ⟨Nat.zero_le _, Nat.zero_le _⟩) hS (fun q _ h => hFc q h) hFc (fun u t H1 locs zt zvm zw zB zz zk hS => ?_)
              obtain ⟨M_10, dd_10, dn_10, lf_10⟩ := u
              have hu_10 := zw
              obtain ⟨hP1, hD1⟩ := zB
              rw [zt] at hP1
              have hP1 : va_P (dC, dI) classes [(hm, .inr (3, [.int sc, .ref hw, .int (nI cn), .int (nI fu), .int lf_10, .int (bI dd_10), .int dn_10, .int (nI 1), .int (bI tr), .int (nI lg), .ref he, .int me, .ref hd, .ref hen, .ref hnd])), (hw, .inl (cI, 160, .inl M_10))] H1 := hP1
              obtain ⟨hP, hD⟩ := va_join (wc := [(hm, .inr (3, [.int sc, .ref hw, .int (nI cn), .int (nI fu), .int lf, .int (bI dd), .int dn, .int (nI 1), .int (bI tr), .int (nI lg), .ref he, .int me, .ref hd, .ref hen, .ref hnd])), (hw, .inl (cI, 160, .inl M))]) (wr := []) (w1 := [(hm, .inr (3, [.int sc, .ref hw, .int (nI cn), .int (nI fu), .int lf_10, .int (bI dd_10), .int dn_10, .int (nI 1), .int (bI tr), .int (nI lg), .ref he, .int me, .ref hd, .ref hen, .ref hnd])), (hw, .inl (cI, 160, .inl M_10))]) hP hD [0, 1] [] rfl rfl (by decide) (by decide) zk hFc hP1 hD1
              generalize H1 = H at hP hS ⊢
              have hP : va_P (dC, dI) classes [(hm, .inr (3, [.int sc, .ref hw, .int (nI cn), .int (nI fu), .int lf_10, .int (bI dd_10), .int dn_10, .int (nI 1), .int (bI tr), .int (nI lg), .ref he, .int me, .ref hd, .ref hen, .ref hnd])), (hw, .inl (cI, 160, .inl M_10))] H := hP.sub [0, 1] rfl
              have hD : va_D A [(hm, .inr (3, [.int sc, .ref hw, .int (nI cn), .int (nI fu), .int lf_10, .int (bI dd_10), .int dn_10, .int (nI 1), .int (bI tr), .int (nI lg), .ref he, .int me, .ref hd, .ref hen, .ref hnd])), (hw, .inl (cI, 160, .inl M_10))] := hD.sub [0, 1] (by decide) rfl
              clear hPc hDc hFc hP1 hD1 zk zz zvm zt
              refine lv_iconst (v := (nI 0)) hx hb d_Mo_update_60 (by decide) ?_
              refine lv_istore_n (lv' := [(3, .int (nI 0)), (2, .int (nI 0)), (0, .ref hm), (1, .int (nI j))]) hx hb d_Mo_update_61 rfl hl (by decide) rfl (fun ls hl => ?_)
              refine wloop (ι := Nat × (Nat → Int32) × Bool × Int32 × Int32) (fun i => 17 - (i.1)) (fun i ls H locs => ((i.1) ≤ 17 ∧ mWp (40 + 17 * j) (17 * 0) 17 0 (M_10, dd_10, dn_10, lf_10) = mWp (40 + 17 * j) (17 * 0) (17 - (i.1)) (i.1) ((i.2.1), (i.2.2.1), (i.2.2.2.1), (i.2.2.2.2))) ∧ lv_has ls 4 [(3, .int (nI (i.1))), (2, .int (nI 0)), (0, .ref hm), (1, .int (nI j))] ∧ va_P (dC, dI) classes [(hm, .inr (3, [.int sc, .ref hw, .int (nI cn), .int (nI fu), .int (i.2.2.2.2), .int (bI (i.2.2.1)), .int (i.2.2.2.1), .int (nI 1), .int (bI tr), .int (nI lg), .ref he, .int me, .ref hd, .ref hen, .ref hnd])), (hw, .inl (cI, 160, .inl (i.2.1)))] H ∧ va_D A [(hm, .inr (3, [.int sc, .ref hw, .int (nI cn), .int (nI fu), .int (i.2.2.2.2), .int (bI (i.2.2.1)), .int (i.2.2.2.1), .int (nI 1), .int (bI tr), .int (nI lg), .ref he, .int me, .ref hd, .ref hen, .ref hnd])), (hw, .inl (cI, 160, .inl (i.2.1)))] ∧ va_S A s.heap H locs) ?_ (0, M_10, dd_10, dn_10, lf_10) ⟨⟨by omega, rfl⟩, hl, hP, hD, hS⟩
              clear hl hP hD hS
              rintro ⟨k, M2, dd2, dn2, lf2⟩ ls H locs ⟨hinv, hl, hP, hD, hS⟩ ih
              dsimp only at hinv hl ih hP hD
              refine lv_iload_n hx hb d_Mo_update_62 rfl (lv_at hl 0 rfl) ?_
              refine lv_bipush (v := (nI 17)) hx hb d_Mo_update_63 (by decide) ?_
              refine nb_ge (tgt := 98) hx hb d_Mo_update_65 (by decide) (by first | omega | exact Nat.lt_of_lt_of_le (stt_lt _ _) (by decide)) (by first | omega | exact Nat.lt_of_lt_of_le (stt_lt _ _) (by decide)) (fun h_11 => ?_) (fun h_11 => ?_)
              · have hwp := hinv.2
                rw [show 17 - k = 0 by omega, mWp] at hwp
                refine lv_aload_n hx hb d_Mo_update_98 rfl (lv_at hl 2 rfl) ?_
                refine lv_iload_n hx hb d_Mo_update_99 rfl (lv_at hl 1 rfl) ?_
                refine lv_iconst (v := (nI 2)) hx hb d_Mo_update_100 (by decide) ?_
                refine lv_aload_n hx hb d_Mo_update_101 rfl (lv_at hl 2 rfl) ?_
                refine pr_call (va_runV (As := []) (rest := [.int (nI 2), .int (nI 0), .ref hm]) ⟨hx, hb, hml, hown, hts⟩ (c_Mo_home l dC dI cI (hm := hm) (sc := sc) (hw := hw) (cn := cn) (fu := fu) (lf := lf2) (dd := dd2) (dn := dn2) (rn := (nI 1)) (tr := tr) (lg := lg) (he := he) (me := me) (hd := hd) (hen := hen) (hnd := hnd) (M := M2) ) ⟨callB_of 0 hts (gd kw_525) rfl rfl rfl (hts _ kw_41) (hts _ kw_546) (by decide +kernel) ⟨Nat.le_of_ble_eq_true rfl, Nat.le_of_ble_eq_true rfl⟩, (hts _ kw_523), (hts _ kw_524)⟩ ⟨fun a U g mk q => by obtain ⟨q0, qP, qK⟩ := q; exact ⟨q0, qP, qK.call⟩, va_recv hK hP (ci := 3) rfl (q0 := 0) rfl, fun U hU hW => ⟨rfl, by rw [hU]; exact hP.sub [0, 1] rfl, hKN.warm hW⟩⟩ rfl rfl hl.1 rfl (lv_room (Nat.le_of_ble_eq_true rfl)) d_Mo_update_102 ⟨Nat.zero_le _, Nat.zero_le _⟩) ?_
                have hPc := hP.sub (ws' := [(hm, .inr (3, [.int sc, .ref hw, .int (nI cn), .int (nI fu), .int lf2, .int (bI dd2), .int dn2, .int (nI 1), .int (bI tr), .int (nI lg), .ref he, .int me, .ref hd, .ref hen, .ref hnd])), (hw, .inl (cI, 160, .inl M2))]) [0, 1] rfl
                have hDc := hD.sub (ws' := [(hm, .inr (3, [.int sc, .ref hw, .int (nI cn), .int (nI fu), .int lf2, .int (bI dd2), .int dn2, .int (nI 1), .int (bI tr), .int (nI lg), .ref he, .int me, .ref hd, .ref hen, .ref hnd])), (hw, .inl (cI, 160, .inl M2))]) [0, 1] (by decide) rfl
                have hFc := va_free (wc := [(hm, .inr (3, [.int sc, .ref hw, .int (nI cn), .int (nI fu), .int lf2, .int (bI dd2), .int dn2, .int (nI 1), .int (bI tr), .int (nI lg), .ref he, .int me, .ref hd, .ref hen, .ref hnd])), (hw, .inl (cI, 160, .inl M2))]) hD hS hA [0, 1] rfl
                refine va_callv (va_runV (As := [.int (nI 0), .int (nI 2), .int (nI (hom (ety M2)))]) (rest := []) ⟨hx, hb, hml, hown, hts⟩ (c_Mo_table l dC dI cI (hm := hm) (k := 0) (v := 2) (g := hom (ety M2)) (sc := sc) (hw := hw) (cn := cn) (fu := fu) (lf := lf2) (dd := dd2) (dn := dn2) (rn := (nI 1)) (tr := tr) (lg := lg) (he := he) (me := me) (hd := hd) (hen := hen) (hnd := hnd) (M := M2) (hk := (by omega)) (sz := H.size)) ⟨callB_of 3 hts (gd kw_550) rfl rfl rfl (hts _ kw_41) (hts _ kw_547) (by decide +kernel) ⟨Nat.le_of_ble_eq_true rfl, Nat.le_of_ble_eq_true rfl⟩, (hts _ kw_549), (hts _ kw_28)⟩ ⟨fun a U g mk q => by obtain ⟨q0, q1, qP, qK, qD⟩ := q; exact ⟨q0, q1, qP, qK.call, qD⟩, va_recv hK hP (ci := 3) rfl (q0 := 0) rfl, fun U hU hW => ⟨rfl, by rw [hU], by rw [hU]; exact hPc, hKN.warm hW, hDc.weaken (fun _ _ _ _ => trivial)⟩⟩ rfl rfl hl.1 rfl (lv_room (Nat.le_of_ble_eq_true rfl)) d_Mo_update_105 ⟨Nat.zero_le _, Nat.zero_le _⟩) hS (fun q _ h => hFc q h) hFc (fun u t H1 locs zt zvm zw zB zz zk hS => ?_)
                obtain ⟨M_12, dd_12, dn_12, lf_12⟩ := u
                have hu_12 := zw
                obtain ⟨hP1, hD1⟩ := zB
                rw [zt] at hP1
                have hP1 : va_P (dC, dI) classes [(hm, .inr (3, [.int sc, .ref hw, .int (nI cn), .int (nI fu), .int lf_12, .int (bI dd_12), .int dn_12, .int (nI 1), .int (bI tr), .int (nI lg), .ref he, .int me, .ref hd, .ref hen, .ref hnd])), (hw, .inl (cI, 160, .inl M_12))] H1 := hP1
                obtain ⟨hP, hD⟩ := va_join (wc := [(hm, .inr (3, [.int sc, .ref hw, .int (nI cn), .int (nI fu), .int lf2, .int (bI dd2), .int dn2, .int (nI 1), .int (bI tr), .int (nI lg), .ref he, .int me, .ref hd, .ref hen, .ref hnd])), (hw, .inl (cI, 160, .inl M2))]) (wr := []) (w1 := [(hm, .inr (3, [.int sc, .ref hw, .int (nI cn), .int (nI fu), .int lf_12, .int (bI dd_12), .int dn_12, .int (nI 1), .int (bI tr), .int (nI lg), .ref he, .int me, .ref hd, .ref hen, .ref hnd])), (hw, .inl (cI, 160, .inl M_12))]) hP hD [0, 1] [] rfl rfl (by decide) (by decide) zk hFc hP1 hD1
                generalize H1 = H at hP hS ⊢
                have hP : va_P (dC, dI) classes [(hm, .inr (3, [.int sc, .ref hw, .int (nI cn), .int (nI fu), .int lf_12, .int (bI dd_12), .int dn_12, .int (nI 1), .int (bI tr), .int (nI lg), .ref he, .int me, .ref hd, .ref hen, .ref hnd])), (hw, .inl (cI, 160, .inl M_12))] H := hP.sub [0, 1] rfl
                have hD : va_D A [(hm, .inr (3, [.int sc, .ref hw, .int (nI cn), .int (nI fu), .int lf_12, .int (bI dd_12), .int dn_12, .int (nI 1), .int (bI tr), .int (nI lg), .ref he, .int me, .ref hd, .ref hen, .ref hnd])), (hw, .inl (cI, 160, .inl M_12))] := hD.sub [0, 1] (by decide) rfl
                clear hPc hDc hFc hP1 hD1 zk zz zvm zt
                refine lv_aload_n hx hb d_Mo_update_108 rfl (lv_at hl 2 rfl) ?_
                refine lv_iconst (v := (nI 0)) hx hb d_Mo_update_109 (by decide) ?_
                have hPc := hP.sub (ws' := [(hm, .inr (3, [.int sc, .ref hw, .int (nI cn), .int (nI fu), .int lf_12, .int (bI dd_12), .int dn_12, .int (nI 1), .int (bI tr), .int (nI lg), .ref he, .int me, .ref hd, .ref hen, .ref hnd]))]) [0] rfl
                have hDc := hD.sub (ws' := [(hm, .inr (3, [.int sc, .ref hw, .int (nI cn), .int (nI fu), .int lf_12, .int (bI dd_12), .int dn_12, .int (nI 1), .int (bI tr), .int (nI lg), .ref he, .int me, .ref hd, .ref hen, .ref hnd]))]) [0] (by decide) rfl
                have hFc := va_free (wc := [(hm, .inr (3, [.int sc, .ref hw, .int (nI cn), .int (nI fu), .int lf_12, .int (bI dd_12), .int dn_12, .int (nI 1), .int (bI tr), .int (nI lg), .ref he, .int me, .ref hd, .ref hen, .ref hnd]))]) hD hS hA [0] rfl
                refine va_calli (va_runV (As := [.int (nI 0)]) (rest := []) ⟨hx, hb, hml, hown, hts⟩ (c_Mo_answer l dC dI cI (hm := hm) (g := (nI 0)) (sc := sc) (hw := hw) (cn := cn) (fu := fu) (lf := lf_12) (dd := dd_12) (dn := dn_12) (rn := (nI 1)) (tr := tr) (lg := lg) (he := he) (me := me) (hd := hd) (hen := hen) (hnd := hnd)  (sz := H.size)) ⟨callB_of 1 hts (gd kw_563) rfl rfl rfl (hts _ kw_41) (hts _ kw_560) (by decide +kernel) ⟨Nat.le_of_ble_eq_true rfl, Nat.le_of_ble_eq_true rfl⟩, (hts _ kw_562), (hts _ kw_31)⟩ ⟨fun a U g mk q => by obtain ⟨q0, q1, qP, qK, qD⟩ := q; exact ⟨q0, q1, qP, qK.call, qD⟩, va_recv hK hP (ci := 3) rfl (q0 := 0) rfl, fun U hU hW => ⟨rfl, by rw [hU], by rw [hU]; exact hPc, hKN.warm hW, hDc.weaken (fun _ _ _ _ => trivial)⟩⟩ rfl rfl hl.1 rfl (lv_room (Nat.le_of_ble_eq_true rfl)) d_Mo_update_110 ⟨Nat.zero_le _, Nat.zero_le _⟩) hS (fun q _ h => hFc q h) hFc (fun r u t H1 locs zt zvm zw zB zz zk hS => ?_)
                obtain ⟨dd_13, rn_13, tr_13, lg_13, me_13⟩ := u
                obtain ⟨r_13, rfl⟩ : ∃ z, z = r := ⟨_, rfl⟩
                have hu_13 := zw
                obtain ⟨hP1, hD1⟩ := zB
                rw [zt] at hP1
                have hP1 : va_P (dC, dI) classes [(hm, .inr (3, [.int sc, .ref hw, .int (nI cn), .int (nI fu), .int lf_12, .int (bI dd_13), .int dn_12, .int rn_13, .int (bI tr_13), .int (nI lg_13), .ref he, .int me_13, .ref hd, .ref hen, .ref hnd]))] H1 := hP1
                obtain ⟨hP, hD⟩ := va_join (wc := [(hm, .inr (3, [.int sc, .ref hw, .int (nI cn), .int (nI fu), .int lf_12, .int (bI dd_12), .int dn_12, .int (nI 1), .int (bI tr), .int (nI lg), .ref he, .int me, .ref hd, .ref hen, .ref hnd]))]) (wr := [(hw, .inl (cI, 160, .inl M_12))]) (w1 := [(hm, .inr (3, [.int sc, .ref hw, .int (nI cn), .int (nI fu), .int lf_12, .int (bI dd_13), .int dn_12, .int rn_13, .int (bI tr_13), .int (nI lg_13), .ref he, .int me_13, .ref hd, .ref hen, .ref hnd]))]) hP hD [0] [1] rfl rfl (by decide) (by decide) zk hFc hP1 hD1
                generalize H1 = H at hP hS ⊢
                have hP : va_P (dC, dI) classes [(hm, .inr (3, [.int sc, .ref hw, .int (nI cn), .int (nI fu), .int lf_12, .int (bI dd_13), .int dn_12, .int rn_13, .int (bI tr_13), .int (nI lg_13), .ref he, .int me_13, .ref hd, .ref hen, .ref hnd])), (hw, .inl (cI, 160, .inl M_12))] H := hP.sub [1, 0] rfl
                have hD : va_D A [(hm, .inr (3, [.int sc, .ref hw, .int (nI cn), .int (nI fu), .int lf_12, .int (bI dd_13), .int dn_12, .int rn_13, .int (bI tr_13), .int (nI lg_13), .ref he, .int me_13, .ref hd, .ref hen, .ref hnd])), (hw, .inl (cI, 160, .inl M_12))] := hD.sub [1, 0] (by decide) rfl
                clear hPc hDc hFc hP1 hD1 zk zz zvm zt
                exact W.iret (v := r_13) hx hb hr (fun t ht hW => ⟨⟨r_13, (rn_13, tr_13, lg_13, me_13, M_12, dd_13, dn_12, lf_12), rfl, (by rw [moUp, hjp, nI_clamp (by omega)]; simp only [moUK, kept_1, h_1, if_neg h_2, if_neg (fun z : tr = true => absurd (h_3.symm.trans z) (by decide)), if_neg h_4, hu_10, if_pos h_11, hwp, hu_12, hu_13, eq_self, reduceCtorEq, if_true, if_false, Nat.reduceSub]), by rw [ht]; exact hP, hD⟩, hS.F ht⟩) hS.2.2 d_Mo_update_113
              · refine lv_aload_n hx hb d_Mo_update_68 rfl (lv_at hl 2 rfl) ?_
                refine lv_bipush (v := (nI 17)) hx hb d_Mo_update_69 (by decide) ?_
                refine lv_iload_n hx hb d_Mo_update_71 rfl (lv_at hl 1 rfl) ?_
                refine lv_imul hx hb d_Mo_update_72 ?_
                refine tp (pk_mul _ _) ?_
                refine lv_iload_n hx hb d_Mo_update_73 rfl (lv_at hl 0 rfl) ?_
                refine lv_iadd hx hb d_Mo_update_74 ?_
                refine tp (nI_add _ _) ?_
                refine lv_aload_n hx hb d_Mo_update_75 rfl (lv_at hl 2 rfl) ?_
                refine va_get (D := (dC, dI)) (ci := 3) (v := .ref hw) (C := R_Mo) (T := F_Mo) (N := 15) hx hb hts in_Mo hown hK hP 0 rfl rfl 1 (by decide) (hts _ kw_440) (fun _ h9 => h9) rfl d_Mo_update_76 ?_
                refine lv_bipush (v := (nI 40)) hx hb d_Mo_update_79 (by decide) ?_
                refine lv_bipush (v := (nI 17)) hx hb d_Mo_update_81 (by decide) ?_
                refine lv_iload_n hx hb d_Mo_update_83 rfl (lv_at hl 3 rfl) ?_
                refine lv_imul hx hb d_Mo_update_84 ?_
                refine tp (pk_mul _ _) ?_
                refine lv_iadd hx hb d_Mo_update_85 ?_
                refine tp (nI_add _ _) ?_
                refine lv_iload_n hx hb d_Mo_update_86 rfl (lv_at hl 0 rfl) ?_
                refine lv_iadd hx hb d_Mo_update_87 ?_
                refine tp (nI_add _ _) ?_
                refine ar_ld (k := (40 + (17 * j)) + k) hx hb hK hP 1 0 rfl rfl (by omega) (by first | decide | omega) d_Mo_update_88 ?_
                have hPc := hP.sub (ws' := [(hm, .inr (3, [.int sc, .ref hw, .int (nI cn), .int (nI fu), .int lf2, .int (bI dd2), .int dn2, .int (nI 1), .int (bI tr), .int (nI lg), .ref he, .int me, .ref hd, .ref hen, .ref hnd])), (hw, .inl (cI, 160, .inl M2))]) [0, 1] rfl
                have hDc := hD.sub (ws' := [(hm, .inr (3, [.int sc, .ref hw, .int (nI cn), .int (nI fu), .int lf2, .int (bI dd2), .int dn2, .int (nI 1), .int (bI tr), .int (nI lg), .ref he, .int me, .ref hd, .ref hen, .ref hnd])), (hw, .inl (cI, 160, .inl M2))]) [0, 1] (by decide) rfl
                have hFc := va_free (wc := [(hm, .inr (3, [.int sc, .ref hw, .int (nI cn), .int (nI fu), .int lf2, .int (bI dd2), .int dn2, .int (nI 1), .int (bI tr), .int (nI lg), .ref he, .int me, .ref hd, .ref hen, .ref hnd])), (hw, .inl (cI, 160, .inl M2))]) hD hS hA [0, 1] rfl
                refine va_callv (va_runV (As := [.int (nI ((17 * 0) + k)), .int (M2 ((40 + (17 * j)) + k))]) (rest := []) ⟨hx, hb, hml, hown, hts⟩ (c_Mo_put l dC dI cI (hm := hm) (k := (17 * 0) + k) (x := M2 ((40 + (17 * j)) + k)) (sc := sc) (hw := hw) (cn := cn) (fu := fu) (lf := lf2) (dd := dd2) (dn := dn2) (rn := (nI 1)) (tr := tr) (lg := lg) (he := he) (me := me) (hd := hd) (hen := hen) (hnd := hnd) (M := M2) (hk := (by omega)) (sz := H.size)) ⟨callB_of 2 hts (gd kw_555) rfl rfl rfl (hts _ kw_41) (hts _ kw_552) (by decide +kernel) ⟨Nat.le_of_ble_eq_true rfl, Nat.le_of_ble_eq_true rfl⟩, (hts _ kw_554), (hts _ kw_29)⟩ ⟨fun a U g mk q => by obtain ⟨q0, q1, qP, qK, qD⟩ := q; exact ⟨q0, q1, qP, qK.call, qD⟩, va_recv hK hP (ci := 3) rfl (q0 := 0) rfl, fun U hU hW => ⟨rfl, by rw [hU], by rw [hU]; exact hPc, hKN.warm hW, hDc.weaken (fun _ _ _ _ => trivial)⟩⟩ rfl rfl hl.1 rfl (lv_room (Nat.le_of_ble_eq_true rfl)) d_Mo_update_89 ⟨Nat.zero_le _, Nat.zero_le _⟩) hS (fun q _ h => hFc q h) hFc (fun u t H1 locs zt zvm zw zB zz zk hS => ?_)
                obtain ⟨M_14, dd_14, dn_14, lf_14⟩ := u
                have hu_14 := zw
                obtain ⟨hP1, hD1⟩ := zB
                rw [zt] at hP1
                have hP1 : va_P (dC, dI) classes [(hm, .inr (3, [.int sc, .ref hw, .int (nI cn), .int (nI fu), .int lf_14, .int (bI dd_14), .int dn_14, .int (nI 1), .int (bI tr), .int (nI lg), .ref he, .int me, .ref hd, .ref hen, .ref hnd])), (hw, .inl (cI, 160, .inl M_14))] H1 := hP1
                obtain ⟨hP, hD⟩ := va_join (wc := [(hm, .inr (3, [.int sc, .ref hw, .int (nI cn), .int (nI fu), .int lf2, .int (bI dd2), .int dn2, .int (nI 1), .int (bI tr), .int (nI lg), .ref he, .int me, .ref hd, .ref hen, .ref hnd])), (hw, .inl (cI, 160, .inl M2))]) (wr := []) (w1 := [(hm, .inr (3, [.int sc, .ref hw, .int (nI cn), .int (nI fu), .int lf_14, .int (bI dd_14), .int dn_14, .int (nI 1), .int (bI tr), .int (nI lg), .ref he, .int me, .ref hd, .ref hen, .ref hnd])), (hw, .inl (cI, 160, .inl M_14))]) hP hD [0, 1] [] rfl rfl (by decide) (by decide) zk hFc hP1 hD1
                generalize H1 = H at hP hS ⊢
                have hP : va_P (dC, dI) classes [(hm, .inr (3, [.int sc, .ref hw, .int (nI cn), .int (nI fu), .int lf_14, .int (bI dd_14), .int dn_14, .int (nI 1), .int (bI tr), .int (nI lg), .ref he, .int me, .ref hd, .ref hen, .ref hnd])), (hw, .inl (cI, 160, .inl M_14))] H := hP.sub [0, 1] rfl
                have hD : va_D A [(hm, .inr (3, [.int sc, .ref hw, .int (nI cn), .int (nI fu), .int lf_14, .int (bI dd_14), .int dn_14, .int (nI 1), .int (bI tr), .int (nI lg), .ref he, .int me, .ref hd, .ref hen, .ref hnd])), (hw, .inl (cI, 160, .inl M_14))] := hD.sub [0, 1] (by decide) rfl
                clear hPc hDc hFc hP1 hD1 zk zz zvm zt
                refine lv_iinc (k := 0) (v := (nI (k + 1))) (lv' := [(3, .int (nI (k + 1))), (2, .int (nI 0)), (0, .ref hm), (1, .int (nI j))]) hx hb d_Mo_update_92 hl rfl (nI_inc _) (by decide) rfl (fun ls hl => ?_)
                refine lv_goto (tgt := 62) hx hb d_Mo_update_95 (by decide) ?_
                exact ih (k + 1, M_14, dd_14, dn_14, lf_14) ls H locs (by show 17 - (k + 1) < 17 - k; omega) ⟨⟨by (try dsimp only); omega, by rw [hinv.2, show 17 - k = (17 - (k + 1)) + 1 by omega, mWp]; dsimp only; rw [hu_14]⟩, hl, hP, hD, hS⟩
          · refine lv_iconst (v := (nI 1)) hx hb d_Mo_update_35 (by decide) ?_
            refine lv_aload_n hx hb d_Mo_update_36 rfl (lv_at hl 0 rfl) ?_
            refine pr_call (va_runV (As := []) (rest := [.int (nI 1)]) ⟨hx, hb, hml, hown, hts⟩ (c_Mo_home l dC dI cI (hm := hm) (sc := sc) (hw := hw) (cn := cn) (fu := fu) (lf := lf) (dd := dd) (dn := dn) (rn := rn) (tr := tr) (lg := lg) (he := he) (me := me) (hd := hd) (hen := hen) (hnd := hnd) (M := M) ) ⟨callB_of 0 hts (gd kw_525) rfl rfl rfl (hts _ kw_41) (hts _ kw_546) (by decide +kernel) ⟨Nat.le_of_ble_eq_true rfl, Nat.le_of_ble_eq_true rfl⟩, (hts _ kw_523), (hts _ kw_524)⟩ ⟨fun a U g mk q => by obtain ⟨q0, qP, qK⟩ := q; exact ⟨q0, qP, qK.call⟩, va_recv hK hP (ci := 3) rfl (q0 := 0) rfl, fun U hU hW => ⟨rfl, by rw [hU]; exact hP.sub [0, 1] rfl, hKN.warm hW⟩⟩ rfl rfl hl.1 rfl (lv_room (Nat.le_of_ble_eq_true rfl)) d_Mo_update_37 ⟨Nat.zero_le _, Nat.zero_le _⟩) ?_
            refine lv_isub hx hb d_Mo_update_40 ?_
            refine tp (pk_sub (by omega)) ?_
            refine lv_goto (tgt := 50) hx hb d_Mo_update_41 (by decide) ?_
            refine lv_istore_n (lv' := [(2, .int (nI (1 - (hom (ety M))))), (0, .ref hm), (1, .int (nI j))]) hx hb d_Mo_update_50 rfl hl (by decide) rfl (fun ls hl => ?_)
            refine lv_aload_n hx hb d_Mo_update_51 rfl (lv_at hl 1 rfl) ?_
            refine lv_iload_n hx hb d_Mo_update_52 rfl (lv_at hl 0 rfl) ?_
            refine lv_iconst (v := (nI 0)) hx hb d_Mo_update_53 (by decide) ?_
            refine lv_iconst (v := (nI 1)) hx hb d_Mo_update_54 (by decide) ?_
            refine lv_iload_n hx hb d_Mo_update_55 rfl (lv_at hl 0 rfl) ?_
            refine lv_isub hx hb d_Mo_update_56 ?_
            refine tp (pk_sub (by omega)) ?_
            have hPc := hP.sub (ws' := [(hm, .inr (3, [.int sc, .ref hw, .int (nI cn), .int (nI fu), .int lf, .int (bI dd), .int dn, .int rn, .int (bI tr), .int (nI lg), .ref he, .int me, .ref hd, .ref hen, .ref hnd])), (hw, .inl (cI, 160, .inl M))]) [0, 1] rfl
            have hDc := hD.sub (ws' := [(hm, .inr (3, [.int sc, .ref hw, .int (nI cn), .int (nI fu), .int lf, .int (bI dd), .int dn, .int rn, .int (bI tr), .int (nI lg), .ref he, .int me, .ref hd, .ref hen, .ref hnd])), (hw, .inl (cI, 160, .inl M))]) [0, 1] (by decide) rfl
            have hFc := va_free (wc := [(hm, .inr (3, [.int sc, .ref hw, .int (nI cn), .int (nI fu), .int lf, .int (bI dd), .int dn, .int rn, .int (bI tr), .int (nI lg), .ref he, .int me, .ref hd, .ref hen, .ref hnd])), (hw, .inl (cI, 160, .inl M))]) hD hS hA [0, 1] rfl
            refine va_callv (va_runV (As := [.int (nI (1 - (hom (ety M)))), .int (nI 0), .int (nI (1 - (1 - (hom (ety M)))))]) (rest := []) ⟨hx, hb, hml, hown, hts⟩ (c_Mo_table l dC dI cI (hm := hm) (k := 1 - (hom (ety M))) (v := 0) (g := 1 - (1 - (hom (ety M)))) (sc := sc) (hw := hw) (cn := cn) (fu := fu) (lf := lf) (dd := dd) (dn := dn) (rn := rn) (tr := tr) (lg := lg) (he := he) (me := me) (hd := hd) (hen := hen) (hnd := hnd) (M := M) (hk := (by omega)) (sz := s.heap.size)) ⟨callB_of 3 hts (gd kw_550) rfl rfl rfl (hts _ kw_41) (hts _ kw_547) (by decide +kernel) ⟨Nat.le_of_ble_eq_true rfl, Nat.le_of_ble_eq_true rfl⟩, (hts _ kw_549), (hts _ kw_28)⟩ ⟨fun a U g mk q => by obtain ⟨q0, q1, qP, qK, qD⟩ := q; exact ⟨q0, q1, qP, qK.call, qD⟩, va_recv hK hP (ci := 3) rfl (q0 := 0) rfl, fun U hU hW => ⟨rfl, by rw [hU], by rw [hU]; exact hPc, hKN.warm hW, hDc.weaken (fun _ _ _ _ => trivial)⟩⟩ rfl rfl hl.1 rfl (lv_room (Nat.le_of_ble_eq_true rfl)) d_Mo_update_57 ⟨Nat.zero_le _, Nat.zero_le _⟩) hS (fun q _ h => hFc q h) hFc (fun u t H1 locs zt zvm zw zB zz zk hS => ?_)
            obtain ⟨M_15, dd_15, dn_15, lf_15⟩ := u
            have hu_15 := zw
            obtain ⟨hP1, hD1⟩ := zB
            rw [zt] at hP1
            have hP1 : va_P (dC, dI) classes [(hm, .inr (3, [.int sc, .ref hw, .int (nI cn), .int (nI fu), .int lf_15, .int (bI dd_15), .int dn_15, .int rn, .int (bI tr), .int (nI lg), .ref he, .int me, .ref hd, .ref hen, .ref hnd])), (hw, .inl (cI, 160, .inl M_15))] H1 := hP1
            obtain ⟨hP, hD⟩ := va_join (wc := [(hm, .inr (3, [.int sc, .ref hw, .int (nI cn), .int (nI fu), .int lf, .int (bI dd), .int dn, .int rn, .int (bI tr), .int (nI lg), .ref he, .int me, .ref hd, .ref hen, .ref hnd])), (hw, .inl (cI, 160, .inl M))]) (wr := []) (w1 := [(hm, .inr (3, [.int sc, .ref hw, .int (nI cn), .int (nI fu), .int lf_15, .int (bI dd_15), .int dn_15, .int rn, .int (bI tr), .int (nI lg), .ref he, .int me, .ref hd, .ref hen, .ref hnd])), (hw, .inl (cI, 160, .inl M_15))]) hP hD [0, 1] [] rfl rfl (by decide) (by decide) zk hFc hP1 hD1
            generalize H1 = H at hP hS ⊢
            have hP : va_P (dC, dI) classes [(hm, .inr (3, [.int sc, .ref hw, .int (nI cn), .int (nI fu), .int lf_15, .int (bI dd_15), .int dn_15, .int rn, .int (bI tr), .int (nI lg), .ref he, .int me, .ref hd, .ref hen, .ref hnd])), (hw, .inl (cI, 160, .inl M_15))] H := hP.sub [0, 1] rfl
            have hD : va_D A [(hm, .inr (3, [.int sc, .ref hw, .int (nI cn), .int (nI fu), .int lf_15, .int (bI dd_15), .int dn_15, .int rn, .int (bI tr), .int (nI lg), .ref he, .int me, .ref hd, .ref hen, .ref hnd])), (hw, .inl (cI, 160, .inl M_15))] := hD.sub [0, 1] (by decide) rfl
            clear hPc hDc hFc hP1 hD1 zk zz zvm zt
            refine lv_iconst (v := (nI 0)) hx hb d_Mo_update_60 (by decide) ?_
            refine lv_istore_n (lv' := [(3, .int (nI 0)), (2, .int (nI (1 - (hom (ety M))))), (0, .ref hm), (1, .int (nI j))]) hx hb d_Mo_update_61 rfl hl (by decide) rfl (fun ls hl => ?_)
            refine wloop (ι := Nat × (Nat → Int32) × Bool × Int32 × Int32) (fun i => 17 - (i.1)) (fun i ls H locs => ((i.1) ≤ 17 ∧ mWp (40 + 17 * j) (17 * (1 - (hom (ety M)))) 17 0 (M_15, dd_15, dn_15, lf_15) = mWp (40 + 17 * j) (17 * (1 - (hom (ety M)))) (17 - (i.1)) (i.1) ((i.2.1), (i.2.2.1), (i.2.2.2.1), (i.2.2.2.2))) ∧ lv_has ls 4 [(3, .int (nI (i.1))), (2, .int (nI (1 - (hom (ety M))))), (0, .ref hm), (1, .int (nI j))] ∧ va_P (dC, dI) classes [(hm, .inr (3, [.int sc, .ref hw, .int (nI cn), .int (nI fu), .int (i.2.2.2.2), .int (bI (i.2.2.1)), .int (i.2.2.2.1), .int rn, .int (bI tr), .int (nI lg), .ref he, .int me, .ref hd, .ref hen, .ref hnd])), (hw, .inl (cI, 160, .inl (i.2.1)))] H ∧ va_D A [(hm, .inr (3, [.int sc, .ref hw, .int (nI cn), .int (nI fu), .int (i.2.2.2.2), .int (bI (i.2.2.1)), .int (i.2.2.2.1), .int rn, .int (bI tr), .int (nI lg), .ref he, .int me, .ref hd, .ref hen, .ref hnd])), (hw, .inl (cI, 160, .inl (i.2.1)))] ∧ va_S A s.heap H locs) ?_ (0, M_15, dd_15, dn_15, lf_15) ⟨⟨by omega, rfl⟩, hl, hP, hD, hS⟩
            clear hl hP hD hS
            rintro ⟨k, M2, dd2, dn2, lf2⟩ ls H locs ⟨hinv, hl, hP, hD, hS⟩ ih
            dsimp only at hinv hl ih hP hD
            refine lv_iload_n hx hb d_Mo_update_62 rfl (lv_at hl 0 rfl) ?_
            refine lv_bipush (v := (nI 17)) hx hb d_Mo_update_63 (by decide) ?_
            refine nb_ge (tgt := 98) hx hb d_Mo_update_65 (by decide) (by first | omega | exact Nat.lt_of_lt_of_le (stt_lt _ _) (by decide)) (by first | omega | exact Nat.lt_of_lt_of_le (stt_lt _ _) (by decide)) (fun h_16 => ?_) (fun h_16 => ?_)
            · have hwp := hinv.2
              rw [show 17 - k = 0 by omega, mWp] at hwp
              refine lv_aload_n hx hb d_Mo_update_98 rfl (lv_at hl 2 rfl) ?_
              refine lv_iload_n hx hb d_Mo_update_99 rfl (lv_at hl 1 rfl) ?_
              refine lv_iconst (v := (nI 2)) hx hb d_Mo_update_100 (by decide) ?_
              refine lv_aload_n hx hb d_Mo_update_101 rfl (lv_at hl 2 rfl) ?_
              refine pr_call (va_runV (As := []) (rest := [.int (nI 2), .int (nI (1 - (hom (ety M)))), .ref hm]) ⟨hx, hb, hml, hown, hts⟩ (c_Mo_home l dC dI cI (hm := hm) (sc := sc) (hw := hw) (cn := cn) (fu := fu) (lf := lf2) (dd := dd2) (dn := dn2) (rn := rn) (tr := tr) (lg := lg) (he := he) (me := me) (hd := hd) (hen := hen) (hnd := hnd) (M := M2) ) ⟨callB_of 0 hts (gd kw_525) rfl rfl rfl (hts _ kw_41) (hts _ kw_546) (by decide +kernel) ⟨Nat.le_of_ble_eq_true rfl, Nat.le_of_ble_eq_true rfl⟩, (hts _ kw_523), (hts _ kw_524)⟩ ⟨fun a U g mk q => by obtain ⟨q0, qP, qK⟩ := q; exact ⟨q0, qP, qK.call⟩, va_recv hK hP (ci := 3) rfl (q0 := 0) rfl, fun U hU hW => ⟨rfl, by rw [hU]; exact hP.sub [0, 1] rfl, hKN.warm hW⟩⟩ rfl rfl hl.1 rfl (lv_room (Nat.le_of_ble_eq_true rfl)) d_Mo_update_102 ⟨Nat.zero_le _, Nat.zero_le _⟩) ?_
              have hPc := hP.sub (ws' := [(hm, .inr (3, [.int sc, .ref hw, .int (nI cn), .int (nI fu), .int lf2, .int (bI dd2), .int dn2, .int rn, .int (bI tr), .int (nI lg), .ref he, .int me, .ref hd, .ref hen, .ref hnd])), (hw, .inl (cI, 160, .inl M2))]) [0, 1] rfl
              have hDc := hD.sub (ws' := [(hm, .inr (3, [.int sc, .ref hw, .int (nI cn), .int (nI fu), .int lf2, .int (bI dd2), .int dn2, .int rn, .int (bI tr), .int (nI lg), .ref he, .int me, .ref hd, .ref hen, .ref hnd])), (hw, .inl (cI, 160, .inl M2))]) [0, 1] (by decide) rfl
              have hFc := va_free (wc := [(hm, .inr (3, [.int sc, .ref hw, .int (nI cn), .int (nI fu), .int lf2, .int (bI dd2), .int dn2, .int rn, .int (bI tr), .int (nI lg), .ref he, .int me, .ref hd, .ref hen, .ref hnd])), (hw, .inl (cI, 160, .inl M2))]) hD hS hA [0, 1] rfl
              refine va_callv (va_runV (As := [.int (nI (1 - (hom (ety M)))), .int (nI 2), .int (nI (hom (ety M2)))]) (rest := []) ⟨hx, hb, hml, hown, hts⟩ (c_Mo_table l dC dI cI (hm := hm) (k := 1 - (hom (ety M))) (v := 2) (g := hom (ety M2)) (sc := sc) (hw := hw) (cn := cn) (fu := fu) (lf := lf2) (dd := dd2) (dn := dn2) (rn := rn) (tr := tr) (lg := lg) (he := he) (me := me) (hd := hd) (hen := hen) (hnd := hnd) (M := M2) (hk := (by omega)) (sz := H.size)) ⟨callB_of 3 hts (gd kw_550) rfl rfl rfl (hts _ kw_41) (hts _ kw_547) (by decide +kernel) ⟨Nat.le_of_ble_eq_true rfl, Nat.le_of_ble_eq_true rfl⟩, (hts _ kw_549), (hts _ kw_28)⟩ ⟨fun a U g mk q => by obtain ⟨q0, q1, qP, qK, qD⟩ := q; exact ⟨q0, q1, qP, qK.call, qD⟩, va_recv hK hP (ci := 3) rfl (q0 := 0) rfl, fun U hU hW => ⟨rfl, by rw [hU], by rw [hU]; exact hPc, hKN.warm hW, hDc.weaken (fun _ _ _ _ => trivial)⟩⟩ rfl rfl hl.1 rfl (lv_room (Nat.le_of_ble_eq_true rfl)) d_Mo_update_105 ⟨Nat.zero_le _, Nat.zero_le _⟩) hS (fun q _ h => hFc q h) hFc (fun u t H1 locs zt zvm zw zB zz zk hS => ?_)
              obtain ⟨M_17, dd_17, dn_17, lf_17⟩ := u
              have hu_17 := zw
              obtain ⟨hP1, hD1⟩ := zB
              rw [zt] at hP1
              have hP1 : va_P (dC, dI) classes [(hm, .inr (3, [.int sc, .ref hw, .int (nI cn), .int (nI fu), .int lf_17, .int (bI dd_17), .int dn_17, .int rn, .int (bI tr), .int (nI lg), .ref he, .int me, .ref hd, .ref hen, .ref hnd])), (hw, .inl (cI, 160, .inl M_17))] H1 := hP1
              obtain ⟨hP, hD⟩ := va_join (wc := [(hm, .inr (3, [.int sc, .ref hw, .int (nI cn), .int (nI fu), .int lf2, .int (bI dd2), .int dn2, .int rn, .int (bI tr), .int (nI lg), .ref he, .int me, .ref hd, .ref hen, .ref hnd])), (hw, .inl (cI, 160, .inl M2))]) (wr := []) (w1 := [(hm, .inr (3, [.int sc, .ref hw, .int (nI cn), .int (nI fu), .int lf_17, .int (bI dd_17), .int dn_17, .int rn, .int (bI tr), .int (nI lg), .ref he, .int me, .ref hd, .ref hen, .ref hnd])), (hw, .inl (cI, 160, .inl M_17))]) hP hD [0, 1] [] rfl rfl (by decide) (by decide) zk hFc hP1 hD1
              generalize H1 = H at hP hS ⊢
              have hP : va_P (dC, dI) classes [(hm, .inr (3, [.int sc, .ref hw, .int (nI cn), .int (nI fu), .int lf_17, .int (bI dd_17), .int dn_17, .int rn, .int (bI tr), .int (nI lg), .ref he, .int me, .ref hd, .ref hen, .ref hnd])), (hw, .inl (cI, 160, .inl M_17))] H := hP.sub [0, 1] rfl
              have hD : va_D A [(hm, .inr (3, [.int sc, .ref hw, .int (nI cn), .int (nI fu), .int lf_17, .int (bI dd_17), .int dn_17, .int rn, .int (bI tr), .int (nI lg), .ref he, .int me, .ref hd, .ref hen, .ref hnd])), (hw, .inl (cI, 160, .inl M_17))] := hD.sub [0, 1] (by decide) rfl
              clear hPc hDc hFc hP1 hD1 zk zz zvm zt
              refine lv_aload_n hx hb d_Mo_update_108 rfl (lv_at hl 2 rfl) ?_
              refine lv_iconst (v := (nI 0)) hx hb d_Mo_update_109 (by decide) ?_
              have hPc := hP.sub (ws' := [(hm, .inr (3, [.int sc, .ref hw, .int (nI cn), .int (nI fu), .int lf_17, .int (bI dd_17), .int dn_17, .int rn, .int (bI tr), .int (nI lg), .ref he, .int me, .ref hd, .ref hen, .ref hnd]))]) [0] rfl
              have hDc := hD.sub (ws' := [(hm, .inr (3, [.int sc, .ref hw, .int (nI cn), .int (nI fu), .int lf_17, .int (bI dd_17), .int dn_17, .int rn, .int (bI tr), .int (nI lg), .ref he, .int me, .ref hd, .ref hen, .ref hnd]))]) [0] (by decide) rfl
              have hFc := va_free (wc := [(hm, .inr (3, [.int sc, .ref hw, .int (nI cn), .int (nI fu), .int lf_17, .int (bI dd_17), .int dn_17, .int rn, .int (bI tr), .int (nI lg), .ref he, .int me, .ref hd, .ref hen, .ref hnd]))]) hD hS hA [0] rfl
              refine va_calli (va_runV (As := [.int (nI 0)]) (rest := []) ⟨hx, hb, hml, hown, hts⟩ (c_Mo_answer l dC dI cI (hm := hm) (g := (nI 0)) (sc := sc) (hw := hw) (cn := cn) (fu := fu) (lf := lf_17) (dd := dd_17) (dn := dn_17) (rn := rn) (tr := tr) (lg := lg) (he := he) (me := me) (hd := hd) (hen := hen) (hnd := hnd)  (sz := H.size)) ⟨callB_of 1 hts (gd kw_563) rfl rfl rfl (hts _ kw_41) (hts _ kw_560) (by decide +kernel) ⟨Nat.le_of_ble_eq_true rfl, Nat.le_of_ble_eq_true rfl⟩, (hts _ kw_562), (hts _ kw_31)⟩ ⟨fun a U g mk q => by obtain ⟨q0, q1, qP, qK, qD⟩ := q; exact ⟨q0, q1, qP, qK.call, qD⟩, va_recv hK hP (ci := 3) rfl (q0 := 0) rfl, fun U hU hW => ⟨rfl, by rw [hU], by rw [hU]; exact hPc, hKN.warm hW, hDc.weaken (fun _ _ _ _ => trivial)⟩⟩ rfl rfl hl.1 rfl (lv_room (Nat.le_of_ble_eq_true rfl)) d_Mo_update_110 ⟨Nat.zero_le _, Nat.zero_le _⟩) hS (fun q _ h => hFc q h) hFc (fun r u t H1 locs zt zvm zw zB zz zk hS => ?_)
              obtain ⟨dd_18, rn_18, tr_18, lg_18, me_18⟩ := u
              obtain ⟨r_18, rfl⟩ : ∃ z, z = r := ⟨_, rfl⟩
              have hu_18 := zw
              obtain ⟨hP1, hD1⟩ := zB
              rw [zt] at hP1
              have hP1 : va_P (dC, dI) classes [(hm, .inr (3, [.int sc, .ref hw, .int (nI cn), .int (nI fu), .int lf_17, .int (bI dd_18), .int dn_17, .int rn_18, .int (bI tr_18), .int (nI lg_18), .ref he, .int me_18, .ref hd, .ref hen, .ref hnd]))] H1 := hP1
              obtain ⟨hP, hD⟩ := va_join (wc := [(hm, .inr (3, [.int sc, .ref hw, .int (nI cn), .int (nI fu), .int lf_17, .int (bI dd_17), .int dn_17, .int rn, .int (bI tr), .int (nI lg), .ref he, .int me, .ref hd, .ref hen, .ref hnd]))]) (wr := [(hw, .inl (cI, 160, .inl M_17))]) (w1 := [(hm, .inr (3, [.int sc, .ref hw, .int (nI cn), .int (nI fu), .int lf_17, .int (bI dd_18), .int dn_17, .int rn_18, .int (bI tr_18), .int (nI lg_18), .ref he, .int me_18, .ref hd, .ref hen, .ref hnd]))]) hP hD [0] [1] rfl rfl (by decide) (by decide) zk hFc hP1 hD1
              generalize H1 = H at hP hS ⊢
              have hP : va_P (dC, dI) classes [(hm, .inr (3, [.int sc, .ref hw, .int (nI cn), .int (nI fu), .int lf_17, .int (bI dd_18), .int dn_17, .int rn_18, .int (bI tr_18), .int (nI lg_18), .ref he, .int me_18, .ref hd, .ref hen, .ref hnd])), (hw, .inl (cI, 160, .inl M_17))] H := hP.sub [1, 0] rfl
              have hD : va_D A [(hm, .inr (3, [.int sc, .ref hw, .int (nI cn), .int (nI fu), .int lf_17, .int (bI dd_18), .int dn_17, .int rn_18, .int (bI tr_18), .int (nI lg_18), .ref he, .int me_18, .ref hd, .ref hen, .ref hnd])), (hw, .inl (cI, 160, .inl M_17))] := hD.sub [1, 0] (by decide) rfl
              clear hPc hDc hFc hP1 hD1 zk zz zvm zt
              exact W.iret (v := r_18) hx hb hr (fun t ht hW => ⟨⟨r_18, (rn_18, tr_18, lg_18, me_18, M_17, dd_18, dn_17, lf_17), rfl, (by rw [moUp, hjp, nI_clamp (by omega)]; simp only [moUK, kept, h_1, if_neg h_2, if_neg (fun z : tr = true => absurd (h_3.symm.trans z) (by decide)), if_pos h_4, hu_15, if_pos h_16, hwp, hu_17, hu_18, eq_self, reduceCtorEq, if_true, if_false, Nat.reduceSub]), by rw [ht]; exact hP, hD⟩, hS.F ht⟩) hS.2.2 d_Mo_update_113
            · refine lv_aload_n hx hb d_Mo_update_68 rfl (lv_at hl 2 rfl) ?_
              refine lv_bipush (v := (nI 17)) hx hb d_Mo_update_69 (by decide) ?_
              refine lv_iload_n hx hb d_Mo_update_71 rfl (lv_at hl 1 rfl) ?_
              refine lv_imul hx hb d_Mo_update_72 ?_
              refine tp (pk_mul _ _) ?_
              refine lv_iload_n hx hb d_Mo_update_73 rfl (lv_at hl 0 rfl) ?_
              refine lv_iadd hx hb d_Mo_update_74 ?_
              refine tp (nI_add _ _) ?_
              refine lv_aload_n hx hb d_Mo_update_75 rfl (lv_at hl 2 rfl) ?_
              refine va_get (D := (dC, dI)) (ci := 3) (v := .ref hw) (C := R_Mo) (T := F_Mo) (N := 15) hx hb hts in_Mo hown hK hP 0 rfl rfl 1 (by decide) (hts _ kw_440) (fun _ h9 => h9) rfl d_Mo_update_76 ?_
              refine lv_bipush (v := (nI 40)) hx hb d_Mo_update_79 (by decide) ?_
              refine lv_bipush (v := (nI 17)) hx hb d_Mo_update_81 (by decide) ?_
              refine lv_iload_n hx hb d_Mo_update_83 rfl (lv_at hl 3 rfl) ?_
              refine lv_imul hx hb d_Mo_update_84 ?_
              refine tp (pk_mul _ _) ?_
              refine lv_iadd hx hb d_Mo_update_85 ?_
              refine tp (nI_add _ _) ?_
              refine lv_iload_n hx hb d_Mo_update_86 rfl (lv_at hl 0 rfl) ?_
              refine lv_iadd hx hb d_Mo_update_87 ?_
              refine tp (nI_add _ _) ?_
              refine ar_ld (k := (40 + (17 * j)) + k) hx hb hK hP 1 0 rfl rfl (by omega) (by first | decide | omega) d_Mo_update_88 ?_
              have hPc := hP.sub (ws' := [(hm, .inr (3, [.int sc, .ref hw, .int (nI cn), .int (nI fu), .int lf2, .int (bI dd2), .int dn2, .int rn, .int (bI tr), .int (nI lg), .ref he, .int me, .ref hd, .ref hen, .ref hnd])), (hw, .inl (cI, 160, .inl M2))]) [0, 1] rfl
              have hDc := hD.sub (ws' := [(hm, .inr (3, [.int sc, .ref hw, .int (nI cn), .int (nI fu), .int lf2, .int (bI dd2), .int dn2, .int rn, .int (bI tr), .int (nI lg), .ref he, .int me, .ref hd, .ref hen, .ref hnd])), (hw, .inl (cI, 160, .inl M2))]) [0, 1] (by decide) rfl
              have hFc := va_free (wc := [(hm, .inr (3, [.int sc, .ref hw, .int (nI cn), .int (nI fu), .int lf2, .int (bI dd2), .int dn2, .int rn, .int (bI tr), .int (nI lg), .ref he, .int me, .ref hd, .ref hen, .ref hnd])), (hw, .inl (cI, 160, .inl M2))]) hD hS hA [0, 1] rfl
              refine va_callv (va_runV (As := [.int (nI ((17 * (1 - (hom (ety M)))) + k)), .int (M2 ((40 + (17 * j)) + k))]) (rest := []) ⟨hx, hb, hml, hown, hts⟩ (c_Mo_put l dC dI cI (hm := hm) (k := (17 * (1 - (hom (ety M)))) + k) (x := M2 ((40 + (17 * j)) + k)) (sc := sc) (hw := hw) (cn := cn) (fu := fu) (lf := lf2) (dd := dd2) (dn := dn2) (rn := rn) (tr := tr) (lg := lg) (he := he) (me := me) (hd := hd) (hen := hen) (hnd := hnd) (M := M2) (hk := (by omega)) (sz := H.size)) ⟨callB_of 2 hts (gd kw_555) rfl rfl rfl (hts _ kw_41) (hts _ kw_552) (by decide +kernel) ⟨Nat.le_of_ble_eq_true rfl, Nat.le_of_ble_eq_true rfl⟩, (hts _ kw_554), (hts _ kw_29)⟩ ⟨fun a U g mk q => by obtain ⟨q0, q1, qP, qK, qD⟩ := q; exact ⟨q0, q1, qP, qK.call, qD⟩, va_recv hK hP (ci := 3) rfl (q0 := 0) rfl, fun U hU hW => ⟨rfl, by rw [hU], by rw [hU]; exact hPc, hKN.warm hW, hDc.weaken (fun _ _ _ _ => trivial)⟩⟩ rfl rfl hl.1 rfl (lv_room (Nat.le_of_ble_eq_true rfl)) d_Mo_update_89 ⟨Nat.zero_le _, Nat.zero_le _⟩) hS (fun q _ h => hFc q h) hFc (fun u t H1 locs zt zvm zw zB zz zk hS => ?_)
              obtain ⟨M_19, dd_19, dn_19, lf_19⟩ := u
              have hu_19 := zw
              obtain ⟨hP1, hD1⟩ := zB
              rw [zt] at hP1
              have hP1 : va_P (dC, dI) classes [(hm, .inr (3, [.int sc, .ref hw, .int (nI cn), .int (nI fu), .int lf_19, .int (bI dd_19), .int dn_19, .int rn, .int (bI tr), .int (nI lg), .ref he, .int me, .ref hd, .ref hen, .ref hnd])), (hw, .inl (cI, 160, .inl M_19))] H1 := hP1
              obtain ⟨hP, hD⟩ := va_join (wc := [(hm, .inr (3, [.int sc, .ref hw, .int (nI cn), .int (nI fu), .int lf2, .int (bI dd2), .int dn2, .int rn, .int (bI tr), .int (nI lg), .ref he, .int me, .ref hd, .ref hen, .ref hnd])), (hw, .inl (cI, 160, .inl M2))]) (wr := []) (w1 := [(hm, .inr (3, [.int sc, .ref hw, .int (nI cn), .int (nI fu), .int lf_19, .int (bI dd_19), .int dn_19, .int rn, .int (bI tr), .int (nI lg), .ref he, .int me, .ref hd, .ref hen, .ref hnd])), (hw, .inl (cI, 160, .inl M_19))]) hP hD [0, 1] [] rfl rfl (by decide) (by decide) zk hFc hP1 hD1
              generalize H1 = H at hP hS ⊢
              have hP : va_P (dC, dI) classes [(hm, .inr (3, [.int sc, .ref hw, .int (nI cn), .int (nI fu), .int lf_19, .int (bI dd_19), .int dn_19, .int rn, .int (bI tr), .int (nI lg), .ref he, .int me, .ref hd, .ref hen, .ref hnd])), (hw, .inl (cI, 160, .inl M_19))] H := hP.sub [0, 1] rfl
              have hD : va_D A [(hm, .inr (3, [.int sc, .ref hw, .int (nI cn), .int (nI fu), .int lf_19, .int (bI dd_19), .int dn_19, .int rn, .int (bI tr), .int (nI lg), .ref he, .int me, .ref hd, .ref hen, .ref hnd])), (hw, .inl (cI, 160, .inl M_19))] := hD.sub [0, 1] (by decide) rfl
              clear hPc hDc hFc hP1 hD1 zk zz zvm zt
              refine lv_iinc (k := 0) (v := (nI (k + 1))) (lv' := [(3, .int (nI (k + 1))), (2, .int (nI (1 - (hom (ety M))))), (0, .ref hm), (1, .int (nI j))]) hx hb d_Mo_update_92 hl rfl (nI_inc _) (by decide) rfl (fun ls hl => ?_)
              refine lv_goto (tgt := 62) hx hb d_Mo_update_95 (by decide) ?_
              exact ih (k + 1, M_19, dd_19, dn_19, lf_19) ls H locs (by show 17 - (k + 1) < 17 - k; omega) ⟨⟨by (try dsimp only); omega, by rw [hinv.2, show 17 - k = (17 - (k + 1)) + 1 by omega, mWp]; dsimp only; rw [hu_19]⟩, hl, hP, hD, hS⟩
        · refine lv_bipush (v := (-2)) hx hb d_Mo_update_24 (by decide) ?_
          exact W.iret (v := (-2)) hx hb hr (fun t ht hW => ⟨⟨(-2), (rn, tr, lg, me, M, dd, dn, lf), rfl, (by rw [moUp, hjp, nI_clamp (by omega)]; simp only [moUK, kept, h_1, if_neg h_2, if_pos h_3, eq_self, reduceCtorEq, if_true, if_false, Nat.reduceSub]), by rw [ht]; exact hP, hD⟩, hS.F ht⟩) hS.2.2 d_Mo_update_26
  · refine lv_aload_n hx hb d_Mo_update_0 rfl (lv_at hl 0 rfl) ?_
    refine lv_iload_n hx hb d_Mo_update_1 rfl (lv_at hl 1 rfl) ?_
    refine lv_iconst (v := (nI 0)) hx hb d_Mo_update_2 (by decide) ?_
    refine pr_call (va_runV (As := [.int v, .int (nI 0)]) (rest := []) ⟨hx, hb, hml, hown, hts⟩ (c_Mo_noWord l dC dI cI (hm := hm) (v := v) (w := (nI 0)) (sc := sc) (hw := hw) (cn := cn) (fu := fu) (lf := lf) (dd := dd) (dn := dn) (rn := rn) (tr := tr) (lg := lg) (he := he) (me := me) (hd := hd) (hen := hen) (hnd := hnd) ) ⟨callB_of 2 hts (gd kw_500) rfl rfl rfl (hts _ kw_41) (hts _ kw_497) (by decide +kernel) ⟨Nat.le_of_ble_eq_true rfl, Nat.le_of_ble_eq_true rfl⟩, (hts _ kw_499), (hts _ kw_22)⟩ ⟨fun a U g mk q => by obtain ⟨q0, qP, qK⟩ := q; exact ⟨q0, qP, qK.call⟩, va_recv hK hP (ci := 3) rfl (q0 := 0) rfl, fun U hU hW => ⟨rfl, by rw [hU]; exact hP.sub [0] rfl, hKN.warm hW⟩⟩ rfl rfl hl.1 rfl (lv_room (Nat.le_of_ble_eq_true rfl)) d_Mo_update_3 ⟨Nat.zero_le _, Nat.zero_le _⟩) ?_
    refine tp (congrArg bI (noW_0 _ _)) ?_
    refine bz_ne (tgt := 24) hx hb d_Mo_update_6 (by decide) (fun h_20 => ?_) (fun h_20 => ?_)
    · refine lv_bipush (v := (-2)) hx hb d_Mo_update_24 (by decide) ?_
      exact W.iret (v := (-2)) hx hb hr (fun t ht hW => ⟨⟨(-2), (rn, tr, lg, me, M, dd, dn, lf), rfl, (by rw [moUp, hbad]; rfl), by rw [ht]; exact hP, hD⟩, hS.F ht⟩) hS.2.2 d_Mo_update_26
    · simp [hbad] at h_20
