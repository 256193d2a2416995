set_option maxHeartbeats 4000000 in
set_option maxRecDepth 100000 in
theorem c_TS_replace (l : Launch) (dC : Nat → ClassId) (dI : Nat → Nat → Nat) (cI : ClassId) (ht : Nat) (k : Nat) (b : Nat) (hm : Nat) (hs : Nat) (hp : Nat) (cn : Nat) (rn : Int32) (tr : Bool) (he : Nat) (ec : Nat) (me : Int32) (hw : Nat) (bl : Nat) (dn : Int32) (lf : Int32) (M : Nat → Int32) (pk : Nat → Int32) (hk : k < 2) (hb119 : b + 17 ≤ 119) (sz : Nat) : Met l y_TS_replace w_TS_replace ({ frames := 5, cells := 0, slots := 0, locals := 112 }) (va_Pc [.ref ht, .int (nI k), .int (nI b)] (fun U => U.heap.size = sz ∧ va_P (dC, dI) classes [(ht, .inr (0, [.ref hm, .ref hs, .ref hp, .int (nI cn), .int rn, .int (bI tr), .ref he, .int (nI ec), .int me])), (hs, .inr (2, [.ref hw, .int (nI bl), .int dn, .int lf])), (hw, .inl (cI, 40, .inl M)), (hp, .inl (cI, 119, .inl pk))] U.heap ∧ KN dC dI cI U ∧ va_D (fun _ => True) [(ht, .inr (0, [.ref hm, .ref hs, .ref hp, .int (nI cn), .int rn, .int (bI tr), .ref he, .int (nI ec), .int me])), (hs, .inr (2, [.ref hw, .int (nI bl), .int dn, .int lf])), (hw, .inl (cI, 40, .inl M)), (hp, .inl (cI, 119, .inl pk))])) (va_Qi (fun (r : Int32) (u : (Nat → Int32) × Int32 × Int32) => ∃ res : Bool, r = bI res ∧ (rplC k (fun i => pk (b + i)) M dn lf = (res, u))) (fun (u : (Nat → Int32) × Int32 × Int32) t => va_P (dC, dI) classes [(ht, .inr (0, [.ref hm, .ref hs, .ref hp, .int (nI cn), .int rn, .int (bI tr), .ref he, .int (nI ec), .int me])), (hs, .inr (2, [.ref hw, .int (nI bl), .int u.2.1, .int u.2.2])), (hw, .inl (cI, 40, .inl u.1)), (hp, .inl (cI, 119, .inl pk))] t.heap ∧ va_D (va_A [(ht, .inr (0, [.ref hm, .ref hs, .ref hp, .int (nI cn), .int rn, .int (bI tr), .ref he, .int (nI ec), .int me])), (hs, .inr (2, [.ref hw, .int (nI bl), .int dn, .int lf])), (hw, .inl (cI, 40, .inl M)), (hp, .inl (cI, 119, .inl pk))] sz) [(ht, .inr (0, [.ref hm, .ref hs, .ref hp, .int (nI cn), .int rn, .int (bI tr), .ref he, .int (nI ec), .int me])), (hs, .inr (2, [.ref hw, .int (nI bl), .int u.2.1, .int u.2.2])), (hw, .inl (cI, 40, .inl u.1)), (hp, .inl (cI, 119, .inl pk))]) (va_A [(ht, .inr (0, [.ref hm, .ref hs, .ref hp, .int (nI cn), .int rn, .int (bI tr), .ref he, .int (nI ec), .int me])), (hs, .inr (2, [.ref hw, .int (nI bl), .int dn, .int lf])), (hw, .inl (cI, 40, .inl M)), (hp, .inl (cI, 119, .inl pk))] sz)) 0 0 (va_A [(ht, .inr (0, [.ref hm, .ref hs, .ref hp, .int (nI cn), .int rn, .int (bI tr), .ref he, .int (nI ec), .int me])), (hs, .inr (2, [.ref hw, .int (nI bl), .int dn, .int lf])), (hw, .inl (cI, 40, .inl M)), (hp, .inl (cI, 119, .inl pk))] sz) := by
  refine Met.ofW (cc := b_TS_replace) (maxL := 4) (ret := (some .boolean)) (by decide) rfl ?_
  intro p e s m args below meth c s₁ B hml hv
  obtain ⟨rfl, hsz, hP, hKN, hD0⟩ := hv
  have hK := hKN.1
  have hx := B.exec
  have hb := B.bytes
  have hr := B.returns
  have hts := fun (w : Cond) (h : w ∈ gt) => atoms_spec (ws := w_TS_replace) B.pre w (List.mem_cons_of_mem _ h)
  have hown : s.vm.findClass R_TS = some m.cls := findClass_of_methodNamed B.named
  have hlocks := B.notSynchronized
  subst hsz
  have hD := hD0.self (sz := s.heap.size)
  generalize hAe : va_A [(ht, .inr (0, [.ref hm, .ref hs, .ref hp, .int (nI cn), .int rn, .int (bI tr), .ref he, .int (nI ec), .int me])), (hs, .inr (2, [.ref hw, .int (nI bl), .int dn, .int lf])), (hw, .inl (cI, 40, .inl M)), (hp, .inl (cI, 119, .inl pk))] s.heap.size = A at hD ⊢
  have hA : ∀ q : Nat, s.heap.size ≤ q → A q := fun q h => by rw [← hAe]; exact Or.inr h
  have hS : va_S A s.heap s.heap [] := va_S.rf
  have hP : va_P (dC, dI) classes [(ht, .inr (0, [.ref hm, .ref hs, .ref hp, .int (nI cn), .int rn, .int (bI tr), .ref he, .int (nI ec), .int me])), (hs, .inr (2, [.ref hw, .int (nI bl), .int dn, .int lf])), (hw, .inl (cI, 40, .inl M)), (hp, .inl (cI, 119, .inl pk))] s.heap := hP
  clear hAe hD0
  have hl := lv_entry ([.ref ht, .int (nI k), .int (nI b)]) (n := 4) (Nat.le_of_ble_eq_true rfl)
  rw [lg_entry_eq]
  generalize (lg_sl ([.ref ht, .int (nI k), .int (nI b)]) ++ List.replicate (4 - (lg_sl ([.ref ht, .int (nI k), .int (nI b)])).length) Slot.unset).toArray = ls at hl ⊢
  have hl : lv_has ls 4 [(0, .ref ht), (1, .int (nI k)), (2, .int (nI b))] := hl
  refine lv_aload_n hx hb d_TS_replace_0 rfl (lv_at hl 0 rfl) ?_
  refine va_get (D := (dC, dI)) (ci := 0) (v := .ref hs) (C := R_TS) (T := F_TS) (N := 9) hx hb hts in_TS hown hK hP 0 rfl rfl 1 (by decide) (hts _ kw_143) (fun _ h9 => h9) rfl d_TS_replace_1 ?_
  refine pr_call (va_runV (As := []) (rest := []) ⟨hx, hb, hml, hown, hts⟩ (c_St_entry l dC dI cI (hs := hs) (hw := hw) (bl := bl) (dn := dn) (lf := lf) (M := M) ) ⟨callB_of 0 hts (gd kw_243) rfl rfl rfl (hts _ kw_39) (hts _ kw_240) (by decide +kernel) ⟨Nat.le_of_ble_eq_true rfl, Nat.le_of_ble_eq_true rfl⟩, (hts _ kw_241), (hts _ kw_242)⟩ ⟨fun a U g mk q => by obtain ⟨q0, qP, qK⟩ := q; exact ⟨q0, qP, qK.call⟩, va_recv hK hP (ci := 2) rfl (q0 := 1) rfl, fun U hU hW => ⟨rfl, by rw [hU]; exact hP.sub [1, 2] rfl, hKN.warm hW⟩⟩ rfl rfl hl.1 rfl (lv_room (Nat.le_of_ble_eq_true rfl)) d_TS_replace_4 ⟨Nat.zero_le _, Nat.zero_le _⟩) ?_
  refine lv_iload_n hx hb d_TS_replace_7 rfl (lv_at hl 1 rfl) ?_
  refine lv_iconst (v := (nI 0)) hx hb d_TS_replace_8 (by decide) ?_
  refine pr_call (va_runS (As := [.int (ety M), .int (nI k), .int (nI 0)]) (rest := []) ⟨hx, hb, hml, hown, hts⟩ (c_Tb_withState l dC dI cI (en := ety M) (k := k) (v := 0) ) ⟨callB_of 3 hts (gd kw_264) rfl rfl rfl (hts _ kw_42) (hts _ kw_262) (by decide +kernel) ⟨Nat.le_of_ble_eq_true rfl, Nat.le_of_ble_eq_true rfl⟩, (hts _ kw_263)⟩ ⟨fun a U g mk q => by obtain ⟨q0, qP, qK⟩ := q; exact ⟨q0, qP, qK.call⟩, fun U hU hW => ⟨rfl, by rw [hU]; exact hP.sub [] rfl, hKN.warm hW⟩⟩ rfl rfl hl.1 rfl (lv_room (Nat.le_of_ble_eq_true rfl)) d_TS_replace_9 ⟨Nat.zero_le _, Nat.zero_le _⟩) ?_
  refine lv_istore_n (lv' := [(3, .int (wst (ety M) k 0)), (0, .ref ht), (1, .int (nI k)), (2, .int (nI b))]) hx hb d_TS_replace_12 rfl hl (by decide) rfl (fun ls hl => ?_)
  refine lv_aload_n hx hb d_TS_replace_13 rfl (lv_at hl 1 rfl) ?_
  refine va_get (D := (dC, dI)) (ci := 0) (v := .ref hs) (C := R_TS) (T := F_TS) (N := 9) hx hb hts in_TS hown hK hP 0 rfl rfl 1 (by decide) (hts _ kw_143) (fun _ h9 => h9) rfl d_TS_replace_14 ?_
  refine lv_iload_n hx hb d_TS_replace_17 rfl (lv_at hl 0 rfl) ?_
  refine lv_iconst (v := (nI 1)) hx hb d_TS_replace_18 (by decide) ?_
  refine lv_iload_n hx hb d_TS_replace_19 rfl (lv_at hl 2 rfl) ?_
  refine lv_isub hx hb d_TS_replace_20 ?_
  refine tp (pk_sub (by omega)) ?_
  refine pr_call (va_runS (As := [.int (wst (ety M) k 0), .int (nI (1 - k))]) (rest := [.ref hs]) ⟨hx, hb, hml, hown, hts⟩ (c_Tb_withHome l dC dI cI (en := wst (ety M) k 0) (k := 1 - k) ) ⟨callB_of 2 hts (gd kw_270) rfl rfl rfl (hts _ kw_42) (hts _ kw_268) (by decide +kernel) ⟨Nat.le_of_ble_eq_true rfl, Nat.le_of_ble_eq_true rfl⟩, (hts _ kw_269)⟩ ⟨fun a U g mk q => by obtain ⟨q0, qP, qK⟩ := q; exact ⟨q0, qP, qK.call⟩, fun U hU hW => ⟨rfl, by rw [hU]; exact hP.sub [] rfl, hKN.warm hW⟩⟩ rfl rfl hl.1 rfl (lv_room (Nat.le_of_ble_eq_true rfl)) d_TS_replace_21 ⟨Nat.zero_le _, Nat.zero_le _⟩) ?_
  have hPc := hP.sub (ws' := [(hs, .inr (2, [.ref hw, .int (nI bl), .int dn, .int lf])), (hw, .inl (cI, 40, .inl M))]) [1, 2] rfl
  have hDc := hD.sub (ws' := [(hs, .inr (2, [.ref hw, .int (nI bl), .int dn, .int lf])), (hw, .inl (cI, 40, .inl M))]) [1, 2] (by decide) rfl
  have hFc := va_free (wc := [(hs, .inr (2, [.ref hw, .int (nI bl), .int dn, .int lf])), (hw, .inl (cI, 40, .inl M))]) hD hS hA [1, 2] rfl
  refine va_calli (va_runV (As := [.int (who (wst (ety M) k 0) (1 - k))]) (rest := []) ⟨hx, hb, hml, hown, hts⟩ (c_St_writeTable l dC dI cI (hs := hs) (en := who (wst (ety M) k 0) (1 - k)) (hw := hw) (bl := bl) (dn := dn) (lf := lf) (M := M)  (sz := s.heap.size)) ⟨callB_of 1 hts (gd kw_274) rfl rfl rfl (hts _ kw_39) (hts _ kw_271) (by decide +kernel) ⟨Nat.le_of_ble_eq_true rfl, Nat.le_of_ble_eq_true rfl⟩, (hts _ kw_272), (hts _ kw_273)⟩ ⟨fun a U g mk q => by obtain ⟨q0, q1, qP, qK, qD⟩ := q; exact ⟨q0, q1, qP, qK.call, qD⟩, va_recv hK hP (ci := 2) rfl (q0 := 1) rfl, fun U hU hW => ⟨rfl, by rw [hU], by rw [hU]; exact hPc, hKN.warm hW, hDc.weaken (fun _ _ _ _ => trivial)⟩⟩ rfl rfl hl.1 rfl (lv_room (Nat.le_of_ble_eq_true rfl)) d_TS_replace_24 ⟨Nat.zero_le _, Nat.zero_le _⟩) hS (fun q _ h => hFc q h) hFc (fun r u t H1 locs zt zvm zw zB zz zk hS => ?_)
  obtain ⟨M_1, dn_1, lf_1⟩ := u
  obtain ⟨b_1, rfl, hu_1⟩ := zw
  obtain ⟨hP1, hD1⟩ := zB
  rw [zt] at hP1
  have hP1 : va_P (dC, dI) classes [(hs, .inr (2, [.ref hw, .int (nI bl), .int dn_1, .int lf_1])), (hw, .inl (cI, 40, .inl M_1))] H1 := hP1
  obtain ⟨hP, hD⟩ := va_join (wc := [(hs, .inr (2, [.ref hw, .int (nI bl), .int dn, .int lf])), (hw, .inl (cI, 40, .inl M))]) (wr := [(ht, .inr (0, [.ref hm, .ref hs, .ref hp, .int (nI cn), .int rn, .int (bI tr), .ref he, .int (nI ec), .int me])), (hp, .inl (cI, 119, .inl pk))]) (w1 := [(hs, .inr (2, [.ref hw, .int (nI bl), .int dn_1, .int lf_1])), (hw, .inl (cI, 40, .inl M_1))]) hP hD [1, 2] [0, 3] rfl rfl (by decide) (by decide) zk hFc hP1 hD1
  generalize H1 = H at hP hS ⊢
  have hP : va_P (dC, dI) classes [(ht, .inr (0, [.ref hm, .ref hs, .ref hp, .int (nI cn), .int rn, .int (bI tr), .ref he, .int (nI ec), .int me])), (hs, .inr (2, [.ref hw, .int (nI bl), .int dn_1, .int lf_1])), (hw, .inl (cI, 40, .inl M_1)), (hp, .inl (cI, 119, .inl pk))] H := hP.sub [0, 2, 3, 1] rfl
  have hD : va_D A [(ht, .inr (0, [.ref hm, .ref hs, .ref hp, .int (nI cn), .int rn, .int (bI tr), .ref he, .int (nI ec), .int me])), (hs, .inr (2, [.ref hw, .int (nI bl), .int dn_1, .int lf_1])), (hw, .inl (cI, 40, .inl M_1)), (hp, .inl (cI, 119, .inl pk))] := hD.sub [0, 2, 3, 1] (by decide) rfl
  clear hPc hDc hFc hP1 hD1 zk zz zvm zt
  refine bz_eq (tgt := 72) hx hb d_TS_replace_27 (by decide) (fun h_2 => ?_) (fun h_2 => ?_)
  · subst h_2
    refine lv_iconst (v := (nI 0)) hx hb d_TS_replace_72 (by decide) ?_
    exact W.zret (v := (bI false)) hx hb hr (bI_narrow _) (fun t ht hW => ⟨⟨_, (M_1, dn_1, lf_1), rfl, ⟨false, rfl, (by simp only [rplC, sq, hu_1])⟩, by rw [ht]; exact hP, hD⟩, hS.F ht⟩) hS.2.2 d_TS_replace_73
  · subst h_2
    refine lv_aload_n hx hb d_TS_replace_30 rfl (lv_at hl 1 rfl) ?_
    refine va_get (D := (dC, dI)) (ci := 0) (v := .ref hs) (C := R_TS) (T := F_TS) (N := 9) hx hb hts in_TS hown hK hP 0 rfl rfl 1 (by decide) (hts _ kw_143) (fun _ h9 => h9) rfl d_TS_replace_31 ?_
    refine lv_iload_n hx hb d_TS_replace_34 rfl (lv_at hl 2 rfl) ?_
    refine lv_aload_n hx hb d_TS_replace_35 rfl (lv_at hl 1 rfl) ?_
    refine va_get (D := (dC, dI)) (ci := 0) (v := .ref hp) (C := R_TS) (T := F_TS) (N := 9) hx hb hts in_TS hown hK hP 0 rfl rfl 2 (by decide) (hts _ kw_144) (fun _ h9 => h9) rfl d_TS_replace_36 ?_
    refine lv_iload_n hx hb d_TS_replace_39 rfl (lv_at hl 3 rfl) ?_
    have hPc := hP.sub (ws' := [(hs, .inr (2, [.ref hw, .int (nI bl), .int dn_1, .int lf_1])), (hw, .inl (cI, 40, .inl M_1)), (hp, .inl (cI, 119, .inl pk))]) [1, 2, 3] rfl
    have hDc := hD.sub (ws' := [(hs, .inr (2, [.ref hw, .int (nI bl), .int dn_1, .int lf_1])), (hw, .inl (cI, 40, .inl M_1)), (hp, .inl (cI, 119, .inl pk))]) [1, 2, 3] (by decide) rfl
    have hFc := va_free (wc := [(hs, .inr (2, [.ref hw, .int (nI bl), .int dn_1, .int lf_1])), (hw, .inl (cI, 40, .inl M_1)), (hp, .inl (cI, 119, .inl pk))]) hD hS hA [1, 2, 3] rfl
    refine va_calli (va_runV (As := [.int (nI k), .ref hp, .int (nI b)]) (rest := []) ⟨hx, hb, hml, hown, hts⟩ (c_St_writePackage l dC dI cI (hs := hs) (k := k) (ha := hp) (b := b) (hw := hw) (bl := bl) (dn := dn_1) (lf := lf_1) (M := M_1) (N := 119) (f := pk) (hN := (by omega)) (hbN := (by omega)) (hk := (by omega)) (sz := H.size)) ⟨callB_of 3 hts (gd kw_286) rfl rfl rfl (hts _ kw_39) (hts _ kw_283) (by decide +kernel) ⟨Nat.le_of_ble_eq_true rfl, Nat.le_of_ble_eq_true rfl⟩, (hts _ kw_284), (hts _ kw_285)⟩ ⟨fun a U g mk q => by obtain ⟨q0, q1, qP, qK, qD⟩ := q; exact ⟨q0, q1, qP, qK.call, qD⟩, va_recv hK hP (ci := 2) rfl (q0 := 1) rfl, fun U hU hW => ⟨rfl, by rw [hU], by rw [hU]; exact hPc, hKN.warm hW, hDc.weaken (fun _ _ _ _ => trivial)⟩⟩ rfl rfl hl.1 rfl (lv_room (Nat.le_of_ble_eq_true rfl)) d_TS_replace_40 ⟨Nat.zero_le _, Nat.zero_le _⟩) hS (fun q _ h => hFc q h) hFc (fun r u t H1 locs zt zvm zw zB zz zk hS => ?_)
    obtain ⟨M_3, dn_3, lf_3⟩ := u
    obtain ⟨b_3, rfl, hu_3⟩ := zw
    obtain ⟨hP1, hD1⟩ := zB
    rw [zt] at hP1
    have hP1 : va_P (dC, dI) classes [(hs, .inr (2, [.ref hw, .int (nI bl), .int dn_3, .int lf_3])), (hw, .inl (cI, 40, .inl M_3)), (hp, .inl (cI, 119, .inl pk))] H1 := hP1
    obtain ⟨hP, hD⟩ := va_join (wc := [(hs, .inr (2, [.ref hw, .int (nI bl), .int dn_1, .int lf_1])), (hw, .inl (cI, 40, .inl M_1)), (hp, .inl (cI, 119, .inl pk))]) (wr := [(ht, .inr (0, [.ref hm, .ref hs, .ref hp, .int (nI cn), .int rn, .int (bI tr), .ref he, .int (nI ec), .int me]))]) (w1 := [(hs, .inr (2, [.ref hw, .int (nI bl), .int dn_3, .int lf_3])), (hw, .inl (cI, 40, .inl M_3)), (hp, .inl (cI, 119, .inl pk))]) hP hD [1, 2, 3] [0] rfl rfl (by decide) (by decide) zk hFc hP1 hD1
    generalize H1 = H at hP hS ⊢
    have hP : va_P (dC, dI) classes [(ht, .inr (0, [.ref hm, .ref hs, .ref hp, .int (nI cn), .int rn, .int (bI tr), .ref he, .int (nI ec), .int me])), (hs, .inr (2, [.ref hw, .int (nI bl), .int dn_3, .int lf_3])), (hw, .inl (cI, 40, .inl M_3)), (hp, .inl (cI, 119, .inl pk))] H := hP.sub [0, 1, 2, 3] rfl
    have hD : va_D A [(ht, .inr (0, [.ref hm, .ref hs, .ref hp, .int (nI cn), .int rn, .int (bI tr), .ref he, .int (nI ec), .int me])), (hs, .inr (2, [.ref hw, .int (nI bl), .int dn_3, .int lf_3])), (hw, .inl (cI, 40, .inl M_3)), (hp, .inl (cI, 119, .inl pk))] := hD.sub [0, 1, 2, 3] (by decide) rfl
    clear hPc hDc hFc hP1 hD1 zk zz zvm zt
    refine bz_eq (tgt := 72) hx hb d_TS_replace_43 (by decide) (fun h_4 => ?_) (fun h_4 => ?_)
    · subst h_4
      refine lv_iconst (v := (nI 0)) hx hb d_TS_replace_72 (by decide) ?_
      exact W.zret (v := (bI false)) hx hb hr (bI_narrow _) (fun t ht hW => ⟨⟨_, (M_3, dn_3, lf_3), rfl, ⟨false, rfl, (by simp only [rplC, sq, hu_1, hu_3])⟩, by rw [ht]; exact hP, hD⟩, hS.F ht⟩) hS.2.2 d_TS_replace_73
    · subst h_4
      refine lv_aload_n hx hb d_TS_replace_46 rfl (lv_at hl 1 rfl) ?_
      refine va_get (D := (dC, dI)) (ci := 0) (v := .ref hs) (C := R_TS) (T := F_TS) (N := 9) hx hb hts in_TS hown hK hP 0 rfl rfl 1 (by decide) (hts _ kw_143) (fun _ h9 => h9) rfl d_TS_replace_47 ?_
      refine lv_aload_n hx hb d_TS_replace_50 rfl (lv_at hl 1 rfl) ?_
      refine va_get (D := (dC, dI)) (ci := 0) (v := .ref hs) (C := R_TS) (T := F_TS) (N := 9) hx hb hts in_TS hown hK hP 0 rfl rfl 1 (by decide) (hts _ kw_143) (fun _ h9 => h9) rfl d_TS_replace_51 ?_
      refine pr_call (va_runV (As := []) (rest := [.ref hs]) ⟨hx, hb, hml, hown, hts⟩ (c_St_entry l dC dI cI (hs := hs) (hw := hw) (bl := bl) (dn := dn_3) (lf := lf_3) (M := M_3) ) ⟨callB_of 0 hts (gd kw_243) rfl rfl rfl (hts _ kw_39) (hts _ kw_240) (by decide +kernel) ⟨Nat.le_of_ble_eq_true rfl, Nat.le_of_ble_eq_true rfl⟩, (hts _ kw_241), (hts _ kw_242)⟩ ⟨fun a U g mk q => by obtain ⟨q0, qP, qK⟩ := q; exact ⟨q0, qP, qK.call⟩, va_recv hK hP (ci := 2) rfl (q0 := 1) rfl, fun U hU hW => ⟨rfl, by rw [hU]; exact hP.sub [1, 2] rfl, hKN.warm hW⟩⟩ rfl rfl hl.1 rfl (lv_room (Nat.le_of_ble_eq_true rfl)) d_TS_replace_54 ⟨Nat.zero_le _, Nat.zero_le _⟩) ?_
      refine lv_iload_n hx hb d_TS_replace_57 rfl (lv_at hl 2 rfl) ?_
      refine lv_iconst (v := (nI 2)) hx hb d_TS_replace_58 (by decide) ?_
      refine pr_call (va_runS (As := [.int (ety M_3), .int (nI k), .int (nI 2)]) (rest := [.ref hs]) ⟨hx, hb, hml, hown, hts⟩ (c_Tb_withState l dC dI cI (en := ety M_3) (k := k) (v := 2) ) ⟨callB_of 3 hts (gd kw_264) rfl rfl rfl (hts _ kw_42) (hts _ kw_262) (by decide +kernel) ⟨Nat.le_of_ble_eq_true rfl, Nat.le_of_ble_eq_true rfl⟩, (hts _ kw_263)⟩ ⟨fun a U g mk q => by obtain ⟨q0, qP, qK⟩ := q; exact ⟨q0, qP, qK.call⟩, fun U hU hW => ⟨rfl, by rw [hU]; exact hP.sub [] rfl, hKN.warm hW⟩⟩ rfl rfl hl.1 rfl (lv_room (Nat.le_of_ble_eq_true rfl)) d_TS_replace_59 ⟨Nat.zero_le _, Nat.zero_le _⟩) ?_
      have hPc := hP.sub (ws' := [(hs, .inr (2, [.ref hw, .int (nI bl), .int dn_3, .int lf_3])), (hw, .inl (cI, 40, .inl M_3))]) [1, 2] rfl
      have hDc := hD.sub (ws' := [(hs, .inr (2, [.ref hw, .int (nI bl), .int dn_3, .int lf_3])), (hw, .inl (cI, 40, .inl M_3))]) [1, 2] (by decide) rfl
      have hFc := va_free (wc := [(hs, .inr (2, [.ref hw, .int (nI bl), .int dn_3, .int lf_3])), (hw, .inl (cI, 40, .inl M_3))]) hD hS hA [1, 2] rfl
      refine va_calli (va_runV (As := [.int (wst (ety M_3) k 2)]) (rest := []) ⟨hx, hb, hml, hown, hts⟩ (c_St_writeTable l dC dI cI (hs := hs) (en := wst (ety M_3) k 2) (hw := hw) (bl := bl) (dn := dn_3) (lf := lf_3) (M := M_3)  (sz := H.size)) ⟨callB_of 1 hts (gd kw_274) rfl rfl rfl (hts _ kw_39) (hts _ kw_271) (by decide +kernel) ⟨Nat.le_of_ble_eq_true rfl, Nat.le_of_ble_eq_true rfl⟩, (hts _ kw_272), (hts _ kw_273)⟩ ⟨fun a U g mk q => by obtain ⟨q0, q1, qP, qK, qD⟩ := q; exact ⟨q0, q1, qP, qK.call, qD⟩, va_recv hK hP (ci := 2) rfl (q0 := 1) rfl, fun U hU hW => ⟨rfl, by rw [hU], by rw [hU]; exact hPc, hKN.warm hW, hDc.weaken (fun _ _ _ _ => trivial)⟩⟩ rfl rfl hl.1 rfl (lv_room (Nat.le_of_ble_eq_true rfl)) d_TS_replace_62 ⟨Nat.zero_le _, Nat.zero_le _⟩) hS (fun q _ h => hFc q h) hFc (fun r u t H1 locs zt zvm zw zB zz zk hS => ?_)
      obtain ⟨M_5, dn_5, lf_5⟩ := u
      obtain ⟨b_5, rfl, hu_5⟩ := zw
      obtain ⟨hP1, hD1⟩ := zB
      rw [zt] at hP1
      have hP1 : va_P (dC, dI) classes [(hs, .inr (2, [.ref hw, .int (nI bl), .int dn_5, .int lf_5])), (hw, .inl (cI, 40, .inl M_5))] H1 := hP1
      obtain ⟨hP, hD⟩ := va_join (wc := [(hs, .inr (2, [.ref hw, .int (nI bl), .int dn_3, .int lf_3])), (hw, .inl (cI, 40, .inl M_3))]) (wr := [(ht, .inr (0, [.ref hm, .ref hs, .ref hp, .int (nI cn), .int rn, .int (bI tr), .ref he, .int (nI ec), .int me])), (hp, .inl (cI, 119, .inl pk))]) (w1 := [(hs, .inr (2, [.ref hw, .int (nI bl), .int dn_5, .int lf_5])), (hw, .inl (cI, 40, .inl M_5))]) hP hD [1, 2] [0, 3] rfl rfl (by decide) (by decide) zk hFc hP1 hD1
      generalize H1 = H at hP hS ⊢
      have hP : va_P (dC, dI) classes [(ht, .inr (0, [.ref hm, .ref hs, .ref hp, .int (nI cn), .int rn, .int (bI tr), .ref he, .int (nI ec), .int me])), (hs, .inr (2, [.ref hw, .int (nI bl), .int dn_5, .int lf_5])), (hw, .inl (cI, 40, .inl M_5)), (hp, .inl (cI, 119, .inl pk))] H := hP.sub [0, 2, 3, 1] rfl
      have hD : va_D A [(ht, .inr (0, [.ref hm, .ref hs, .ref hp, .int (nI cn), .int rn, .int (bI tr), .ref he, .int (nI ec), .int me])), (hs, .inr (2, [.ref hw, .int (nI bl), .int dn_5, .int lf_5])), (hw, .inl (cI, 40, .inl M_5)), (hp, .inl (cI, 119, .inl pk))] := hD.sub [0, 2, 3, 1] (by decide) rfl
      clear hPc hDc hFc hP1 hD1 zk zz zvm zt
      refine bz_eq (tgt := 72) hx hb d_TS_replace_65 (by decide) (fun h_6 => ?_) (fun h_6 => ?_)
      · subst h_6
        refine lv_iconst (v := (nI 0)) hx hb d_TS_replace_72 (by decide) ?_
        exact W.zret (v := (bI false)) hx hb hr (bI_narrow _) (fun t ht hW => ⟨⟨_, (M_5, dn_5, lf_5), rfl, ⟨false, rfl, (by simp only [rplC, sq, hu_1, hu_3, hu_5])⟩, by rw [ht]; exact hP, hD⟩, hS.F ht⟩) hS.2.2 d_TS_replace_73
      · subst h_6
        refine lv_iconst (v := (nI 1)) hx hb d_TS_replace_68 (by decide) ?_
        refine lv_goto (tgt := 73) hx hb d_TS_replace_69 (by decide) ?_
        exact W.zret (v := (bI true)) hx hb hr (bI_narrow _) (fun t ht hW => ⟨⟨_, (M_5, dn_5, lf_5), rfl, ⟨true, rfl, (by simp only [rplC, sq, hu_1, hu_3, hu_5])⟩, by rw [ht]; exact hP, hD⟩, hS.F ht⟩) hS.2.2 d_TS_replace_73
set_option maxHeartbeats 4000000 in
set_option maxRecDepth 100000 in
theorem c_TS_sign (l : Launch) (dC : Nat → ClassId) (dI : Nat → Nat → Nat) (cI : ClassId) (ht : Nat) (ve : Int32) (a0 : Int32) (a1 : Int32) (a2 : Int32) (hm : Nat) (hs : Nat) (hp : Nat) (cn : Nat) (rn : Int32) (tr : Bool) (he : Nat) (ec : Nat) (me : Int32) (sc : Int32) (hn : Nat) (nk : Nat) (nd : Nat → Int32) (pk : Nat → Int32) (hcn : cn ≤ 7) (hnk : nk = cn + 1) (sz : Nat) : Met l y_TS_sign w_TS_sign ({ frames := 4, cells := 0, slots := 0, locals := 98 }) (va_Pc [.ref ht, .int ve, .int a0, .int a1, .int a2] (fun U => U.heap.size = sz ∧ va_P (dC, dI) classes [(ht, .inr (0, [.ref hm, .ref hs, .ref hp, .int (nI cn), .int rn, .int (bI tr), .ref he, .int (nI ec), .int me])), (hm, .inr (1, [.int sc, .ref hn, .int (nI nk)])), (hn, .inl (cI, 16, .inl nd)), (hp, .inl (cI, 119, .inl pk))] U.heap ∧ KN dC dI cI U ∧ va_D (fun _ => True) [(ht, .inr (0, [.ref hm, .ref hs, .ref hp, .int (nI cn), .int rn, .int (bI tr), .ref he, .int (nI ec), .int me])), (hm, .inr (1, [.int sc, .ref hn, .int (nI nk)])), (hn, .inl (cI, 16, .inl nd)), (hp, .inl (cI, 119, .inl pk))])) (va_Qi (fun (r : Int32) (u : Nat × Nat × (Nat → Int32)) => tsSign sc nd cn nk ve a0 a1 a2 pk = (r, u)) (fun (u : Nat × Nat × (Nat → Int32)) t => va_P (dC, dI) classes [(ht, .inr (0, [.ref hm, .ref hs, .ref hp, .int (nI u.1), .int rn, .int (bI tr), .ref he, .int (nI ec), .int me])), (hm, .inr (1, [.int sc, .ref hn, .int (nI u.2.1)])), (hn, .inl (cI, 16, .inl nd)), (hp, .inl (cI, 119, .inl u.2.2))] t.heap ∧ va_D (va_A [(ht, .inr (0, [.ref hm, .ref hs, .ref hp, .int (nI cn), .int rn, .int (bI tr), .ref he, .int (nI ec), .int me])), (hm, .inr (1, [.int sc, .ref hn, .int (nI nk)])), (hn, .inl (cI, 16, .inl nd)), (hp, .inl (cI, 119, .inl pk))] sz) [(ht, .inr (0, [.ref hm, .ref hs, .ref hp, .int (nI u.1), .int rn, .int (bI tr), .ref he, .int (nI ec), .int me])), (hm, .inr (1, [.int sc, .ref hn, .int (nI u.2.1)])), (hn, .inl (cI, 16, .inl nd)), (hp, .inl (cI, 119, .inl u.2.2))]) (va_A [(ht, .inr (0, [.ref hm, .ref hs, .ref hp, .int (nI cn), .int rn, .int (bI tr), .ref he, .int (nI ec), .int me])), (hm, .inr (1, [.int sc, .ref hn, .int (nI nk)])), (hn, .inl (cI, 16, .inl nd)), (hp, .inl (cI, 119, .inl pk))] sz)) 0 0 (va_A [(ht, .inr (0, [.ref hm, .ref hs, .ref hp, .int (nI cn), .int rn, .int (bI tr), .ref he, .int (nI ec), .int me])), (hm, .inr (1, [.int sc, .ref hn, .int (nI nk)])), (hn, .inl (cI, 16, .inl nd)), (hp, .inl (cI, 119, .inl pk))] sz) := by
  refine Met.ofW (cc := b_TS_sign) (maxL := 6) (ret := (some .int)) (by decide) rfl ?_
  intro p e s m args below meth c s₁ B hml hv
  obtain ⟨rfl, hsz, hP, hKN, hD0⟩ := hv
  have hK := hKN.1
  have hx := B.exec
  have hb := B.bytes
  have hr := B.returns
  have hts := fun (w : Cond) (h : w ∈ gt) => atoms_spec (ws := w_TS_sign) B.pre w (List.mem_cons_of_mem _ h)
  have hown : s.vm.findClass R_TS = some m.cls := findClass_of_methodNamed B.named
  have hlocks := B.notSynchronized
  subst hsz
  have hD := hD0.self (sz := s.heap.size)
  generalize hAe : va_A [(ht, .inr (0, [.ref hm, .ref hs, .ref hp, .int (nI cn), .int rn, .int (bI tr), .ref he, .int (nI ec), .int me])), (hm, .inr (1, [.int sc, .ref hn, .int (nI nk)])), (hn, .inl (cI, 16, .inl nd)), (hp, .inl (cI, 119, .inl pk))] s.heap.size = A at hD ⊢
  have hA : ∀ q : Nat, s.heap.size ≤ q → A q := fun q h => by rw [← hAe]; exact Or.inr h
  have hS : va_S A s.heap s.heap [] := va_S.rf
  have hP : va_P (dC, dI) classes [(ht, .inr (0, [.ref hm, .ref hs, .ref hp, .int (nI cn), .int rn, .int (bI tr), .ref he, .int (nI ec), .int me])), (hm, .inr (1, [.int sc, .ref hn, .int (nI nk)])), (hn, .inl (cI, 16, .inl nd)), (hp, .inl (cI, 119, .inl pk))] s.heap := hP
  clear hAe hD0
  have hl := lv_entry ([.ref ht, .int ve, .int a0, .int a1, .int a2]) (n := 6) (Nat.le_of_ble_eq_true rfl)
  rw [lg_entry_eq]
  generalize (lg_sl ([.ref ht, .int ve, .int a0, .int a1, .int a2]) ++ List.replicate (6 - (lg_sl ([.ref ht, .int ve, .int a0, .int a1, .int a2])).length) Slot.unset).toArray = ls at hl ⊢
  have hl : lv_has ls 6 [(0, .ref ht), (1, .int ve), (2, .int a0), (3, .int a1), (4, .int a2)] := hl
  refine lv_iload_n hx hb d_TS_sign_0 rfl (lv_at hl 1 rfl) ?_
  refine pr_call (va_runS (As := [.int ve]) (rest := []) ⟨hx, hb, hml, hown, hts⟩ (c_PW_isVersion l dC dI cI (v := ve) ) ⟨callB_of 1 hts (gd kw_184) rfl rfl rfl (hts _ kw_38) (hts _ kw_182) (by decide +kernel) ⟨Nat.le_of_ble_eq_true rfl, Nat.le_of_ble_eq_true rfl⟩, (hts _ kw_183)⟩ ⟨fun a U g mk q => by obtain ⟨q0, qP, qK⟩ := q; exact ⟨q0, qP, qK.call⟩, fun U hU hW => ⟨rfl, by rw [hU]; exact hP.sub [] rfl, hKN.warm hW⟩⟩ rfl rfl hl.1 rfl (lv_room (Nat.le_of_ble_eq_true rfl)) d_TS_sign_1 ⟨Nat.zero_le _, Nat.zero_le _⟩) ?_
  refine bz_eq (tgt := 26) hx hb d_TS_sign_4 (by decide) (fun h_1 => ?_) (fun h_1 => ?_)
  · refine lv_iconst (v := (-1)) hx hb d_TS_sign_26 (by decide) ?_
    exact W.iret (v := (-1)) hx hb hr (fun t ht hW => ⟨⟨(-1), (cn, nk, pk), rfl, (by simp [tsSign, h_1]), by rw [ht]; exact hP, hD⟩, hS.F ht⟩) hS.2.2 d_TS_sign_27
  · refine lv_aload_n hx hb d_TS_sign_7 rfl (lv_at hl 0 rfl) ?_
    refine va_get (D := (dC, dI)) (ci := 0) (v := .ref hm) (C := R_TS) (T := F_TS) (N := 9) hx hb hts in_TS hown hK hP 0 rfl rfl 0 (by decide) (hts _ kw_142) (fun _ h9 => h9) rfl d_TS_sign_8 ?_
    refine pr_call (va_runV (As := []) (rest := []) ⟨hx, hb, hml, hown, hts⟩ (c_Mk_hasKeyLeft l dC dI cI (hm := hm) (sc := sc) (hn := hn) (nk := nk) (hnk := (by omega))) ⟨callB_of 0 hts (gd kw_188) rfl rfl rfl (hts _ kw_36) (hts _ kw_185) (by decide +kernel) ⟨Nat.le_of_ble_eq_true rfl, Nat.le_of_ble_eq_true rfl⟩, (hts _ kw_186), (hts _ kw_187)⟩ ⟨fun a U g mk q => by obtain ⟨q0, qP, qK⟩ := q; exact ⟨q0, qP, qK.call⟩, va_recv hK hP (ci := 1) rfl (q0 := 1) rfl, fun U hU hW => ⟨rfl, by rw [hU]; exact hP.sub [1] rfl, hKN.warm hW⟩⟩ rfl rfl hl.1 rfl (lv_room (Nat.le_of_ble_eq_true rfl)) d_TS_sign_11 ⟨Nat.zero_le _, Nat.zero_le _⟩) ?_
    refine bz_eq (tgt := 26) hx hb d_TS_sign_14 (by decide) (fun h_2 => ?_) (fun h_2 => ?_)
    · refine lv_iconst (v := (-1)) hx hb d_TS_sign_26 (by decide) ?_
      exact W.iret (v := (-1)) hx hb hr (fun t ht hW => ⟨⟨(-1), (cn, nk, pk), rfl, (by have z8 : 8 ≤ nk := (by simpa using h_2); simp [tsSign, h_1, z8]), by rw [ht]; exact hP, hD⟩, hS.F ht⟩) hS.2.2 d_TS_sign_27
    · refine lv_aload_n hx hb d_TS_sign_17 rfl (lv_at hl 0 rfl) ?_
      refine va_get (D := (dC, dI)) (ci := 0) (v := .int (nI cn)) (C := R_TS) (T := F_TS) (N := 9) hx hb hts in_TS hown hK hP 0 rfl rfl 3 (by decide) (hts _ kw_145) (fun _ h9 => h9) rfl d_TS_sign_18 ?_
      refine lv_bipush (v := (nI 7)) hx hb d_TS_sign_21 (by decide) ?_
      refine nb_lt (tgt := 28) hx hb d_TS_sign_23 (by decide) (by first | omega | exact Nat.lt_of_lt_of_le (stt_lt _ _) (by decide)) (by first | omega | exact Nat.lt_of_lt_of_le (stt_lt _ _) (by decide)) (fun h_3 => ?_) (fun h_3 => ?_)
      · refine lv_aload_n hx hb d_TS_sign_28 rfl (lv_at hl 0 rfl) ?_
        refine va_get (D := (dC, dI)) (ci := 0) (v := .int (nI cn)) (C := R_TS) (T := F_TS) (N := 9) hx hb hts in_TS hown hK hP 0 rfl rfl 3 (by decide) (hts _ kw_145) (fun _ h9 => h9) rfl d_TS_sign_29 ?_
        refine lv_istore (lv' := [(5, .int (nI cn)), (0, .ref ht), (1, .int ve), (2, .int a0), (3, .int a1), (4, .int a2)]) hx hb d_TS_sign_32 hl (by decide) rfl (fun ls hl => ?_)
        refine lv_aload_n hx hb d_TS_sign_34 rfl (lv_at hl 1 rfl) ?_
        refine va_get (D := (dC, dI)) (ci := 0) (v := .ref hm) (C := R_TS) (T := F_TS) (N := 9) hx hb hts in_TS hown hK hP 0 rfl rfl 0 (by decide) (hts _ kw_142) (fun _ h9 => h9) rfl d_TS_sign_35 ?_
        refine lv_aload_n hx hb d_TS_sign_38 rfl (lv_at hl 1 rfl) ?_
        refine va_get (D := (dC, dI)) (ci := 0) (v := .ref hp) (C := R_TS) (T := F_TS) (N := 9) hx hb hts in_TS hown hK hP 0 rfl rfl 2 (by decide) (hts _ kw_144) (fun _ h9 => h9) rfl d_TS_sign_39 ?_
        refine lv_iload hx hb d_TS_sign_42 (lv_at hl 0 rfl) ?_
        refine pr_call (va_runS (As := [.int (nI cn)]) (rest := [.ref hp, .ref hm]) ⟨hx, hb, hml, hown, hts⟩ (c_TS_packagePlace l dC dI cI (k := cn) ) ⟨callB_of 1 hts (gd kw_191) rfl rfl rfl (hts _ kw_35) (hts _ kw_189) (by decide +kernel) ⟨Nat.le_of_ble_eq_true rfl, Nat.le_of_ble_eq_true rfl⟩, (hts _ kw_190)⟩ ⟨fun a U g mk q => by obtain ⟨q0, qP, qK⟩ := q; exact ⟨q0, qP, qK.call⟩, fun U hU hW => ⟨rfl, by rw [hU]; exact hP.sub [] rfl, hKN.warm hW⟩⟩ rfl rfl hl.1 rfl (lv_room (Nat.le_of_ble_eq_true rfl)) d_TS_sign_44 ⟨Nat.zero_le _, Nat.zero_le _⟩) ?_
        refine lv_iload_n hx hb d_TS_sign_47 rfl (lv_at hl 2 rfl) ?_
        refine lv_iload_n hx hb d_TS_sign_48 rfl (lv_at hl 3 rfl) ?_
        refine lv_iload_n hx hb d_TS_sign_49 rfl (lv_at hl 4 rfl) ?_
        refine lv_iload hx hb d_TS_sign_50 (lv_at hl 5 rfl) ?_
        have hPc := hP.sub (ws' := [(hm, .inr (1, [.int sc, .ref hn, .int (nI nk)])), (hn, .inl (cI, 16, .inl nd)), (hp, .inl (cI, 119, .inl pk))]) [1, 2, 3] rfl
        have hDc := hD.sub (ws' := [(hm, .inr (1, [.int sc, .ref hn, .int (nI nk)])), (hn, .inl (cI, 16, .inl nd)), (hp, .inl (cI, 119, .inl pk))]) [1, 2, 3] (by decide) rfl
        have hFc := va_free (wc := [(hm, .inr (1, [.int sc, .ref hn, .int (nI nk)])), (hn, .inl (cI, 16, .inl nd)), (hp, .inl (cI, 119, .inl pk))]) hD hS hA [1, 2, 3] rfl
        refine va_callv (va_runV (As := [.ref hp, .int (nI (cn * 17)), .int ve, .int a0, .int a1, .int a2]) (rest := []) ⟨hx, hb, hml, hown, hts⟩ (c_Mk_pack l dC dI cI (hm := hm) (ha := hp) (b := cn * 17) (ve := ve) (a0 := a0) (a1 := a1) (a2 := a2) (sc := sc) (hn := hn) (nk := nk) (nd := nd) (N := 119) (f := pk) (hN := (by omega)) (hbN := (by omega)) (hnk := (by omega)) (sz := s.heap.size)) ⟨callB_of 6 hts (gd kw_90) rfl rfl rfl (hts _ kw_36) (hts _ kw_87) (by decide +kernel) ⟨Nat.le_of_ble_eq_true rfl, Nat.le_of_ble_eq_true rfl⟩, (hts _ kw_88), (hts _ kw_89)⟩ ⟨fun a U g mk q => by obtain ⟨q0, q1, qP, qK, qD⟩ := q; exact ⟨q0, q1, qP, qK.call, qD⟩, va_recv hK hP (ci := 1) rfl (q0 := 1) rfl, fun U hU hW => ⟨rfl, by rw [hU], by rw [hU]; exact hPc, hKN.warm hW, hDc.weaken (fun _ _ _ _ => trivial)⟩⟩ rfl rfl hl.1 rfl (lv_room (Nat.le_of_ble_eq_true rfl)) d_TS_sign_52 ⟨Nat.zero_le _, Nat.zero_le _⟩) hS (fun q _ h => hFc q h) hFc (fun u t H1 locs zt zvm zw zB zz zk hS => ?_)
        obtain ⟨nk_4, f_4⟩ := u
        have hu_4 := zw
        obtain ⟨hP1, hD1⟩ := zB
        rw [zt] at hP1
        have hP1 : va_P (dC, dI) classes [(hm, .inr (1, [.int sc, .ref hn, .int (nI nk_4)])), (hn, .inl (cI, 16, .inl nd)), (hp, .inl (cI, 119, .inl f_4))] H1 := hP1
        obtain ⟨hP, hD⟩ := va_join (wc := [(hm, .inr (1, [.int sc, .ref hn, .int (nI nk)])), (hn, .inl (cI, 16, .inl nd)), (hp, .inl (cI, 119, .inl pk))]) (wr := [(ht, .inr (0, [.ref hm, .ref hs, .ref hp, .int (nI cn), .int rn, .int (bI tr), .ref he, .int (nI ec), .int me]))]) (w1 := [(hm, .inr (1, [.int sc, .ref hn, .int (nI nk_4)])), (hn, .inl (cI, 16, .inl nd)), (hp, .inl (cI, 119, .inl f_4))]) hP hD [1, 2, 3] [0] rfl rfl (by decide) (by decide) zk hFc hP1 hD1
        generalize H1 = H at hP hS ⊢
        have hP : va_P (dC, dI) classes [(ht, .inr (0, [.ref hm, .ref hs, .ref hp, .int (nI cn), .int rn, .int (bI tr), .ref he, .int (nI ec), .int me])), (hm, .inr (1, [.int sc, .ref hn, .int (nI nk_4)])), (hn, .inl (cI, 16, .inl nd)), (hp, .inl (cI, 119, .inl f_4))] H := hP.sub [0, 1, 2, 3] rfl
        have hD : va_D A [(ht, .inr (0, [.ref hm, .ref hs, .ref hp, .int (nI cn), .int rn, .int (bI tr), .ref he, .int (nI ec), .int me])), (hm, .inr (1, [.int sc, .ref hn, .int (nI nk_4)])), (hn, .inl (cI, 16, .inl nd)), (hp, .inl (cI, 119, .inl f_4))] := hD.sub [0, 1, 2, 3] (by decide) rfl
        clear hPc hDc hFc hP1 hD1 zk zz zvm zt
        refine lv_aload_n hx hb d_TS_sign_55 rfl (lv_at hl 1 rfl) ?_
        refine lv_dup hx hb d_TS_sign_56 rfl ?_
        refine va_get (D := (dC, dI)) (ci := 0) (v := .int (nI cn)) (C := R_TS) (T := F_TS) (N := 9) hx hb hts in_TS hown hK hP 0 rfl rfl 3 (by decide) (hts _ kw_145) (fun _ h9 => h9) rfl d_TS_sign_57 ?_
        refine lv_iconst (v := (nI 1)) hx hb d_TS_sign_60 (by decide) ?_
        refine lv_iadd hx hb d_TS_sign_61 ?_
        refine tp (nI_add _ _) ?_
        refine va_put (D := (dC, dI)) (ci := 0) (v := .int (nI (cn + 1))) (ty := .int) (C := R_TS) (T := F_TS) (N := 9) hx hb hts in_TS t_TS t_TS_ok n_TS hown hK hP hD hS 0 rfl rfl 3 (by decide) (hts _ kw_145) (fun _ h9 => h9) rfl (by decide +kernel) rfl rfl (Nat.le_of_ble_eq_true rfl) d_TS_sign_62 (fun H locs hP hD hS => ?_)
        have hP : va_P (dC, dI) classes [(ht, .inr (0, [.ref hm, .ref hs, .ref hp, .int (nI (cn + 1)), .int rn, .int (bI tr), .ref he, .int (nI ec), .int me])), (hm, .inr (1, [.int sc, .ref hn, .int (nI nk_4)])), (hn, .inl (cI, 16, .inl nd)), (hp, .inl (cI, 119, .inl f_4))] H := hP
        have hD : va_D A [(ht, .inr (0, [.ref hm, .ref hs, .ref hp, .int (nI (cn + 1)), .int rn, .int (bI tr), .ref he, .int (nI ec), .int me])), (hm, .inr (1, [.int sc, .ref hn, .int (nI nk_4)])), (hn, .inl (cI, 16, .inl nd)), (hp, .inl (cI, 119, .inl f_4))] := hD
        refine lv_iload hx hb d_TS_sign_65 (lv_at hl 0 rfl) ?_
        exact W.iret (v := (nI cn)) hx hb hr (fun t ht hW => ⟨⟨(nI cn), (cn + 1, nk_4, f_4), rfl, (by have z8 : ¬ 8 ≤ nk := (by simpa using h_2); simp [tsSign, h_1, h_3, hu_4, z8]), by rw [ht]; exact hP, hD⟩, hS.F ht⟩) hS.2.2 d_TS_sign_67
      · refine lv_iconst (v := (-1)) hx hb d_TS_sign_26 (by decide) ?_
        exact W.iret (v := (-1)) hx hb hr (fun t ht hW => ⟨⟨(-1), (cn, nk, pk), rfl, (by have z8 : ¬ 8 ≤ nk := (by simpa using h_2); simp [tsSign, h_1, h_3, z8]), by rw [ht]; exact hP, hD⟩, hS.F ht⟩) hS.2.2 d_TS_sign_27
set_option maxHeartbeats 4000000 in
set_option maxRecDepth 100000 in
theorem c_TS_startConfirmed (l : Launch) (dC : Nat → ClassId) (dI : Nat → Nat → Nat) (cI : ClassId) (ht : Nat) (hm : Nat) (hs : Nat) (hp : Nat) (cn : Nat) (rn : Int32) (tr : Bool) (he : Nat) (ec : Nat) (me : Int32) (sc : Int32) (hn : Nat) (nk : Nat) (nd : Nat → Int32) (hw : Nat) (bl : Nat) (dn : Int32) (lf : Int32) (M : Nat → Int32) (en : Nat → Int32) (hbl : bl ≤ 32) (sz : Nat) : Met l y_TS_startConfirmed w_TS_startConfirmed ({ frames := 6, cells := 0, slots := 0, locals := 129 }) (va_Pc [.ref ht] (fun U => U.heap.size = sz ∧ va_P (dC, dI) classes [(ht, .inr (0, [.ref hm, .ref hs, .ref hp, .int (nI cn), .int rn, .int (bI tr), .ref he, .int (nI ec), .int me])), (hm, .inr (1, [.int sc, .ref hn, .int (nI nk)])), (hn, .inl (cI, 16, .inl nd)), (hs, .inr (2, [.ref hw, .int (nI bl), .int dn, .int lf])), (hw, .inl (cI, 40, .inl M)), (he, .inl (cI, 3, .inl en))] U.heap ∧ KN dC dI cI U ∧ va_D (fun _ => True) [(ht, .inr (0, [.ref hm, .ref hs, .ref hp, .int (nI cn), .int rn, .int (bI tr), .ref he, .int (nI ec), .int me])), (hm, .inr (1, [.int sc, .ref hn, .int (nI nk)])), (hn, .inl (cI, 16, .inl nd)), (hs, .inr (2, [.ref hw, .int (nI bl), .int dn, .int lf])), (hw, .inl (cI, 40, .inl M)), (he, .inl (cI, 3, .inl en))])) (va_Qi (fun (r : Int32) (u : Int32 × Bool × (Nat → Int32) × Nat × Int32 × Nat × Int32 × Int32) => scC M (nd 1) rn tr en ec me bl dn lf = (r, u)) (fun (u : Int32 × Bool × (Nat → Int32) × Nat × Int32 × Nat × Int32 × Int32) t => va_P (dC, dI) classes [(ht, .inr (0, [.ref hm, .ref hs, .ref hp, .int (nI cn), .int u.1, .int (bI u.2.1), .ref he, .int (nI u.2.2.2.1), .int u.2.2.2.2.1])), (hm, .inr (1, [.int sc, .ref hn, .int (nI nk)])), (hn, .inl (cI, 16, .inl nd)), (hs, .inr (2, [.ref hw, .int (nI u.2.2.2.2.2.1), .int u.2.2.2.2.2.2.1, .int u.2.2.2.2.2.2.2])), (hw, .inl (cI, 40, .inl M)), (he, .inl (cI, 3, .inl u.2.2.1))] t.heap ∧ va_D (va_A [(ht, .inr (0, [.ref hm, .ref hs, .ref hp, .int (nI cn), .int rn, .int (bI tr), .ref he, .int (nI ec), .int me])), (hm, .inr (1, [.int sc, .ref hn, .int (nI nk)])), (hn, .inl (cI, 16, .inl nd)), (hs, .inr (2, [.ref hw, .int (nI bl), .int dn, .int lf])), (hw, .inl (cI, 40, .inl M)), (he, .inl (cI, 3, .inl en))] sz) [(ht, .inr (0, [.ref hm, .ref hs, .ref hp, .int (nI cn), .int u.1, .int (bI u.2.1), .ref he, .int (nI u.2.2.2.1), .int u.2.2.2.2.1])), (hm, .inr (1, [.int sc, .ref hn, .int (nI nk)])), (hn, .inl (cI, 16, .inl nd)), (hs, .inr (2, [.ref hw, .int (nI u.2.2.2.2.2.1), .int u.2.2.2.2.2.2.1, .int u.2.2.2.2.2.2.2])), (hw, .inl (cI, 40, .inl M)), (he, .inl (cI, 3, .inl u.2.2.1))]) (va_A [(ht, .inr (0, [.ref hm, .ref hs, .ref hp, .int (nI cn), .int rn, .int (bI tr), .ref he, .int (nI ec), .int me])), (hm, .inr (1, [.int sc, .ref hn, .int (nI nk)])), (hn, .inl (cI, 16, .inl nd)), (hs, .inr (2, [.ref hw, .int (nI bl), .int dn, .int lf])), (hw, .inl (cI, 40, .inl M)), (he, .inl (cI, 3, .inl en))] sz)) 0 0 (va_A [(ht, .inr (0, [.ref hm, .ref hs, .ref hp, .int (nI cn), .int rn, .int (bI tr), .ref he, .int (nI ec), .int me])), (hm, .inr (1, [.int sc, .ref hn, .int (nI nk)])), (hn, .inl (cI, 16, .inl nd)), (hs, .inr (2, [.ref hw, .int (nI bl), .int dn, .int lf])), (hw, .inl (cI, 40, .inl M)), (he, .inl (cI, 3, .inl en))] sz) := by
  refine Met.ofW (cc := b_TS_startConfirmed) (maxL := 3) (ret := (some .int)) (by decide) rfl ?_
  intro p e s m args below meth c s₁ B hml hv
  obtain ⟨rfl, hsz, hP, hKN, hD0⟩ := hv
  have hK := hKN.1
  have hx := B.exec
  have hb := B.bytes
  have hr := B.returns
  have hts := fun (w : Cond) (h : w ∈ gt) => atoms_spec (ws := w_TS_startConfirmed) B.pre w (List.mem_cons_of_mem _ h)
  have hown : s.vm.findClass R_TS = some m.cls := findClass_of_methodNamed B.named
  have hlocks := B.notSynchronized
  subst hsz
  have hD := hD0.self (sz := s.heap.size)
  generalize hAe : va_A [(ht, .inr (0, [.ref hm, .ref hs, .ref hp, .int (nI cn), .int rn, .int (bI tr), .ref he, .int (nI ec), .int me])), (hm, .inr (1, [.int sc, .ref hn, .int (nI nk)])), (hn, .inl (cI, 16, .inl nd)), (hs, .inr (2, [.ref hw, .int (nI bl), .int dn, .int lf])), (hw, .inl (cI, 40, .inl M)), (he, .inl (cI, 3, .inl en))] s.heap.size = A at hD ⊢
  have hA : ∀ q : Nat, s.heap.size ≤ q → A q := fun q h => by rw [← hAe]; exact Or.inr h
  have hS : va_S A s.heap s.heap [] := va_S.rf
  have hP : va_P (dC, dI) classes [(ht, .inr (0, [.ref hm, .ref hs, .ref hp, .int (nI cn), .int rn, .int (bI tr), .ref he, .int (nI ec), .int me])), (hm, .inr (1, [.int sc, .ref hn, .int (nI nk)])), (hn, .inl (cI, 16, .inl nd)), (hs, .inr (2, [.ref hw, .int (nI bl), .int dn, .int lf])), (hw, .inl (cI, 40, .inl M)), (he, .inl (cI, 3, .inl en))] s.heap := hP
  clear hAe hD0
  have hl := lv_entry ([.ref ht]) (n := 3) (Nat.le_of_ble_eq_true rfl)
  rw [lg_entry_eq]
  generalize (lg_sl ([.ref ht]) ++ List.replicate (3 - (lg_sl ([.ref ht])).length) Slot.unset).toArray = ls at hl ⊢
  have hl : lv_has ls 3 [(0, .ref ht)] := hl
  refine lv_aload_n hx hb d_TS_startConfirmed_0 rfl (lv_at hl 0 rfl) ?_
  refine va_get (D := (dC, dI)) (ci := 0) (v := .ref hs) (C := R_TS) (T := F_TS) (N := 9) hx hb hts in_TS hown hK hP 0 rfl rfl 1 (by decide) (hts _ kw_143) (fun _ h9 => h9) rfl d_TS_startConfirmed_1 ?_
  refine pr_call (va_runV (As := []) (rest := []) ⟨hx, hb, hml, hown, hts⟩ (c_St_entry l dC dI cI (hs := hs) (hw := hw) (bl := bl) (dn := dn) (lf := lf) (M := M) ) ⟨callB_of 0 hts (gd kw_243) rfl rfl rfl (hts _ kw_39) (hts _ kw_240) (by decide +kernel) ⟨Nat.le_of_ble_eq_true rfl, Nat.le_of_ble_eq_true rfl⟩, (hts _ kw_241), (hts _ kw_242)⟩ ⟨fun a U g mk q => by obtain ⟨q0, qP, qK⟩ := q; exact ⟨q0, qP, qK.call⟩, va_recv hK hP (ci := 2) rfl (q0 := 3) rfl, fun U hU hW => ⟨rfl, by rw [hU]; exact hP.sub [3, 4] rfl, hKN.warm hW⟩⟩ rfl rfl hl.1 rfl (lv_room (Nat.le_of_ble_eq_true rfl)) d_TS_startConfirmed_4 ⟨Nat.zero_le _, Nat.zero_le _⟩) ?_
  refine pr_call (va_runS (As := [.int (ety M)]) (rest := []) ⟨hx, hb, hml, hown, hts⟩ (c_Tb_homeIn l dC dI cI (en := ety M) ) ⟨callB_of 1 hts (gd kw_257) rfl rfl rfl (hts _ kw_42) (hts _ kw_255) (by decide +kernel) ⟨Nat.le_of_ble_eq_true rfl, Nat.le_of_ble_eq_true rfl⟩, (hts _ kw_256)⟩ ⟨fun a U g mk q => by obtain ⟨q0, qP, qK⟩ := q; exact ⟨q0, qP, qK.call⟩, fun U hU hW => ⟨rfl, by rw [hU]; exact hP.sub [] rfl, hKN.warm hW⟩⟩ rfl rfl hl.1 rfl (lv_room (Nat.le_of_ble_eq_true rfl)) d_TS_startConfirmed_7 ⟨Nat.zero_le _, Nat.zero_le _⟩) ?_
  rcases hom_or (ety M) with hh0 | hh0
  · refine tp (congrArg nI hh0) ?_
    refine lv_istore_n (lv' := [(1, .int (nI 0)), (0, .ref ht)]) hx hb d_TS_startConfirmed_10 rfl hl (by decide) rfl (fun ls hl => ?_)
    refine lv_iconst (v := (-1)) hx hb d_TS_startConfirmed_11 (by decide) ?_
    refine lv_istore_n (lv' := [(2, .int (-1)), (1, .int (nI 0)), (0, .ref ht)]) hx hb d_TS_startConfirmed_12 rfl hl (by decide) rfl (fun ls hl => ?_)
    refine lv_aload_n hx hb d_TS_startConfirmed_13 rfl (lv_at hl 2 rfl) ?_
    refine lv_iload_n hx hb d_TS_startConfirmed_14 rfl (lv_at hl 1 rfl) ?_
    refine pr_call (va_runV (As := [.int (nI 0)]) (rest := []) ⟨hx, hb, hml, hown, hts⟩ (c_TS_isConfirmed l dC dI cI (ht := ht) (k := 0) (hm := hm) (hs := hs) (hp := hp) (cn := cn) (rn := rn) (tr := tr) (he := he) (ec := ec) (me := me) (hw := hw) (bl := bl) (dn := dn) (lf := lf) (M := M) (hk := (by omega))) ⟨callB_of 1 hts (gd kw_336) rfl rfl rfl (hts _ kw_35) (hts _ kw_333) (by decide +kernel) ⟨Nat.le_of_ble_eq_true rfl, Nat.le_of_ble_eq_true rfl⟩, (hts _ kw_335), (hts _ kw_15)⟩ ⟨fun a U g mk q => by obtain ⟨q0, qP, qK⟩ := q; exact ⟨q0, qP, qK.call⟩, va_recv hK hP (ci := 0) rfl (q0 := 0) rfl, fun U hU hW => ⟨rfl, by rw [hU]; exact hP.sub [0, 3, 4] rfl, hKN.warm hW⟩⟩ rfl rfl hl.1 rfl (lv_room (Nat.le_of_ble_eq_true rfl)) d_TS_startConfirmed_15 ⟨Nat.zero_le _, Nat.zero_le _⟩) ?_
    refine bz_eq (tgt := 34) hx hb d_TS_startConfirmed_18 (by decide) (fun h_1 => ?_) (fun h_1 => ?_)
    · refine lv_aload_n hx hb d_TS_startConfirmed_34 rfl (lv_at hl 2 rfl) ?_
      refine lv_iconst (v := (nI 1)) hx hb d_TS_startConfirmed_35 (by decide) ?_
      refine lv_iload_n hx hb d_TS_startConfirmed_36 rfl (lv_at hl 1 rfl) ?_
      refine lv_isub hx hb d_TS_startConfirmed_37 ?_
      refine tp (y := (nI 1)) (by decide) ?_
      refine pr_call (va_runV (As := [.int (nI 1)]) (rest := []) ⟨hx, hb, hml, hown, hts⟩ (c_TS_isConfirmed l dC dI cI (ht := ht) (k := 1) (hm := hm) (hs := hs) (hp := hp) (cn := cn) (rn := rn) (tr := tr) (he := he) (ec := ec) (me := me) (hw := hw) (bl := bl) (dn := dn) (lf := lf) (M := M) (hk := (by omega))) ⟨callB_of 1 hts (gd kw_336) rfl rfl rfl (hts _ kw_35) (hts _ kw_333) (by decide +kernel) ⟨Nat.le_of_ble_eq_true rfl, Nat.le_of_ble_eq_true rfl⟩, (hts _ kw_335), (hts _ kw_15)⟩ ⟨fun a U g mk q => by obtain ⟨q0, qP, qK⟩ := q; exact ⟨q0, qP, qK.call⟩, va_recv hK hP (ci := 0) rfl (q0 := 0) rfl, fun U hU hW => ⟨rfl, by rw [hU]; exact hP.sub [0, 3, 4] rfl, hKN.warm hW⟩⟩ rfl rfl hl.1 rfl (lv_room (Nat.le_of_ble_eq_true rfl)) d_TS_startConfirmed_38 ⟨Nat.zero_le _, Nat.zero_le _⟩) ?_
      refine bz_eq (tgt := 58) hx hb d_TS_startConfirmed_41 (by decide) (fun h_2 => ?_) (fun h_2 => ?_)
      · refine lv_iload_n hx hb d_TS_startConfirmed_58 rfl (lv_at hl 0 rfl) ?_
        refine lv_iconst (v := (-1)) hx hb d_TS_startConfirmed_59 (by decide) ?_
        refine lv_icmp_ne (tgt := 74) hx hb d_TS_startConfirmed_60 (by decide) (fun h_3 => ?_) (fun h_3 => ?_)
        · exact absurd h_3 (by decide)
        · refine lv_aload_n hx hb d_TS_startConfirmed_63 rfl (lv_at hl 2 rfl) ?_
          have hPc := hP.sub (ws' := [(ht, .inr (0, [.ref hm, .ref hs, .ref hp, .int (nI cn), .int rn, .int (bI tr), .ref he, .int (nI ec), .int me]))]) [0] rfl
          have hDc := hD.sub (ws' := [(ht, .inr (0, [.ref hm, .ref hs, .ref hp, .int (nI cn), .int rn, .int (bI tr), .ref he, .int (nI ec), .int me]))]) [0] (by decide) rfl
          have hFc := va_free (wc := [(ht, .inr (0, [.ref hm, .ref hs, .ref hp, .int (nI cn), .int rn, .int (bI tr), .ref he, .int (nI ec), .int me]))]) hD hS hA [0] rfl
          refine va_callv (va_runV (As := []) (rest := []) ⟨hx, hb, hml, hown, hts⟩ (c_TS_forgetStages l dC dI cI (ht := ht) (hm := hm) (hs := hs) (hp := hp) (cn := cn) (rn := rn) (tr := tr) (he := he) (ec := ec) (me := me)  (sz := s.heap.size)) ⟨callB_of 0 hts (gd kw_301) rfl rfl rfl (hts _ kw_35) (hts _ kw_298) (by decide +kernel) ⟨Nat.le_of_ble_eq_true rfl, Nat.le_of_ble_eq_true rfl⟩, (hts _ kw_300), (hts _ kw_11)⟩ ⟨fun a U g mk q => by obtain ⟨q0, q1, qP, qK, qD⟩ := q; exact ⟨q0, q1, qP, qK.call, qD⟩, va_recv hK hP (ci := 0) rfl (q0 := 0) rfl, fun U hU hW => ⟨rfl, by rw [hU], by rw [hU]; exact hPc, hKN.warm hW, hDc.weaken (fun _ _ _ _ => trivial)⟩⟩ rfl rfl hl.1 rfl (lv_room (Nat.le_of_ble_eq_true rfl)) d_TS_startConfirmed_64 ⟨Nat.zero_le _, Nat.zero_le _⟩) hS (fun q _ h => hFc q h) hFc (fun u t H1 locs zt zvm zw zB zz zk hS => ?_)
          obtain ⟨ec_4, me_4⟩ := u
          have hu_4 := zw
          simp only [Prod.mk.injEq] at hu_4
          obtain ⟨rfl, rfl⟩ := hu_4
          obtain ⟨hP1, hD1⟩ := zB
          rw [zt] at hP1
          have hP1 : va_P (dC, dI) classes [(ht, .inr (0, [.ref hm, .ref hs, .ref hp, .int (nI cn), .int rn, .int (bI tr), .ref he, .int (nI 0), .int (nI 0)]))] H1 := hP1
          obtain ⟨hP, hD⟩ := va_join (wc := [(ht, .inr (0, [.ref hm, .ref hs, .ref hp, .int (nI cn), .int rn, .int (bI tr), .ref he, .int (nI ec), .int me]))]) (wr := [(hm, .inr (1, [.int sc, .ref hn, .int (nI nk)])), (hn, .inl (cI, 16, .inl nd)), (hs, .inr (2, [.ref hw, .int (nI bl), .int dn, .int lf])), (hw, .inl (cI, 40, .inl M)), (he, .inl (cI, 3, .inl en))]) (w1 := [(ht, .inr (0, [.ref hm, .ref hs, .ref hp, .int (nI cn), .int rn, .int (bI tr), .ref he, .int (nI 0), .int (nI 0)]))]) hP hD [0] [1, 2, 3, 4, 5] rfl rfl (by decide) (by decide) zk hFc hP1 hD1
          generalize H1 = H at hP hS ⊢
          have hP : va_P (dC, dI) classes [(ht, .inr (0, [.ref hm, .ref hs, .ref hp, .int (nI cn), .int rn, .int (bI tr), .ref he, .int (nI 0), .int (nI 0)])), (hm, .inr (1, [.int sc, .ref hn, .int (nI nk)])), (hn, .inl (cI, 16, .inl nd)), (hs, .inr (2, [.ref hw, .int (nI bl), .int dn, .int lf])), (hw, .inl (cI, 40, .inl M)), (he, .inl (cI, 3, .inl en))] H := hP.sub [5, 0, 1, 2, 3, 4] rfl
          have hD : va_D A [(ht, .inr (0, [.ref hm, .ref hs, .ref hp, .int (nI cn), .int rn, .int (bI tr), .ref he, .int (nI 0), .int (nI 0)])), (hm, .inr (1, [.int sc, .ref hn, .int (nI nk)])), (hn, .inl (cI, 16, .inl nd)), (hs, .inr (2, [.ref hw, .int (nI bl), .int dn, .int lf])), (hw, .inl (cI, 40, .inl M)), (he, .inl (cI, 3, .inl en))] := hD.sub [5, 0, 1, 2, 3, 4] (by decide) rfl
          clear hPc hDc hFc hP1 hD1 zk zz zvm zt
          refine lv_aload_n hx hb d_TS_startConfirmed_67 rfl (lv_at hl 2 rfl) ?_
          refine lv_iconst (v := (nI 2)) hx hb d_TS_startConfirmed_68 (by decide) ?_
          refine va_put (D := (dC, dI)) (ci := 0) (v := .int (nI 2)) (ty := .int) (C := R_TS) (T := F_TS) (N := 9) hx hb hts in_TS t_TS t_TS_ok n_TS hown hK hP hD hS 0 rfl rfl 4 (by decide) (hts _ kw_146) (fun _ h9 => h9) rfl (by decide +kernel) rfl rfl (Nat.le_of_ble_eq_true rfl) d_TS_startConfirmed_69 (fun H locs hP hD hS => ?_)
          have hP : va_P (dC, dI) classes [(ht, .inr (0, [.ref hm, .ref hs, .ref hp, .int (nI cn), .int (nI 2), .int (bI tr), .ref he, .int (nI 0), .int (nI 0)])), (hm, .inr (1, [.int sc, .ref hn, .int (nI nk)])), (hn, .inl (cI, 16, .inl nd)), (hs, .inr (2, [.ref hw, .int (nI bl), .int dn, .int lf])), (hw, .inl (cI, 40, .inl M)), (he, .inl (cI, 3, .inl en))] H := hP
          have hD : va_D A [(ht, .inr (0, [.ref hm, .ref hs, .ref hp, .int (nI cn), .int (nI 2), .int (bI tr), .ref he, .int (nI 0), .int (nI 0)])), (hm, .inr (1, [.int sc, .ref hn, .int (nI nk)])), (hn, .inl (cI, 16, .inl nd)), (hs, .inr (2, [.ref hw, .int (nI bl), .int dn, .int lf])), (hw, .inl (cI, 40, .inl M)), (he, .inl (cI, 3, .inl en))] := hD
          refine lv_iconst (v := (nI 2)) hx hb d_TS_startConfirmed_72 (by decide) ?_
          exact W.iret (v := (nI 2)) hx hb hr (fun t ht hW => ⟨⟨(nI 2), ((nI 2), tr, en, 0, (nI 0), bl, dn, lf), rfl, (by simp only [scC, t1, blw, hh0, h_1, h_2, eq_self, reduceCtorEq, if_true, if_false, Nat.reduceSub]), by rw [ht]; exact hP, hD⟩, hS.F ht⟩) hS.2.2 d_TS_startConfirmed_73
      · refine lv_aload_n hx hb d_TS_startConfirmed_44 rfl (lv_at hl 2 rfl) ?_
        refine lv_iconst (v := (nI 1)) hx hb d_TS_startConfirmed_45 (by decide) ?_
        refine lv_iload_n hx hb d_TS_startConfirmed_46 rfl (lv_at hl 1 rfl) ?_
        refine lv_isub hx hb d_TS_startConfirmed_47 ?_
        refine tp (y := (nI 1)) (by decide) ?_
        have hPc := hP.sub (ws' := [(ht, .inr (0, [.ref hm, .ref hs, .ref hp, .int (nI cn), .int rn, .int (bI tr), .ref he, .int (nI ec), .int me])), (hm, .inr (1, [.int sc, .ref hn, .int (nI nk)])), (hn, .inl (cI, 16, .inl nd)), (hs, .inr (2, [.ref hw, .int (nI bl), .int dn, .int lf])), (hw, .inl (cI, 40, .inl M)), (he, .inl (cI, 3, .inl en))]) [0, 1, 2, 3, 4, 5] rfl
        have hDc := hD.sub (ws' := [(ht, .inr (0, [.ref hm, .ref hs, .ref hp, .int (nI cn), .int rn, .int (bI tr), .ref he, .int (nI ec), .int me])), (hm, .inr (1, [.int sc, .ref hn, .int (nI nk)])), (hn, .inl (cI, 16, .inl nd)), (hs, .inr (2, [.ref hw, .int (nI bl), .int dn, .int lf])), (hw, .inl (cI, 40, .inl M)), (he, .inl (cI, 3, .inl en))]) [0, 1, 2, 3, 4, 5] (by decide) rfl
        have hFc := va_free (wc := [(ht, .inr (0, [.ref hm, .ref hs, .ref hp, .int (nI cn), .int rn, .int (bI tr), .ref he, .int (nI ec), .int me])), (hm, .inr (1, [.int sc, .ref hn, .int (nI nk)])), (hn, .inl (cI, 16, .inl nd)), (hs, .inr (2, [.ref hw, .int (nI bl), .int dn, .int lf])), (hw, .inl (cI, 40, .inl M)), (he, .inl (cI, 3, .inl en))]) hD hS hA [0, 1, 2, 3, 4, 5] rfl
        refine va_calli (va_runV (As := [.int (nI 1)]) (rest := []) ⟨hx, hb, hml, hown, hts⟩ (c_TS_attempt l dC dI cI (ht := ht) (k := 1) (hm := hm) (hs := hs) (hp := hp) (cn := cn) (rn := rn) (tr := tr) (he := he) (ec := ec) (me := me) (sc := sc) (hn := hn) (nk := nk) (nd := nd) (hw := hw) (bl := bl) (dn := dn) (lf := lf) (M := M) (en := en) (hk := (by omega)) (hbl := (by omega)) (sz := s.heap.size)) ⟨callB_of 1 hts (gd kw_316) rfl rfl rfl (hts _ kw_35) (hts _ kw_313) (by decide +kernel) ⟨Nat.le_of_ble_eq_true rfl, Nat.le_of_ble_eq_true rfl⟩, (hts _ kw_315), (hts _ kw_12)⟩ ⟨fun a U g mk q => by obtain ⟨q0, q1, qP, qK, qD⟩ := q; exact ⟨q0, q1, qP, qK.call, qD⟩, va_recv hK hP (ci := 0) rfl (q0 := 0) rfl, fun U hU hW => ⟨rfl, by rw [hU], by rw [hU]; exact hPc, hKN.warm hW, hDc.weaken (fun _ _ _ _ => trivial)⟩⟩ rfl rfl hl.1 rfl (lv_room (Nat.le_of_ble_eq_true rfl)) d_TS_startConfirmed_48 ⟨Nat.zero_le _, Nat.zero_le _⟩) hS (fun q _ h => hFc q h) hFc (fun r u t H1 locs zt zvm zw zB zz zk hS => ?_)
        obtain ⟨en_5, ec_5, me_5⟩ := u
        obtain ⟨b_5, rfl, hu_5⟩ := zw
        obtain ⟨hP1, hD1⟩ := zB
        rw [zt] at hP1
        have hP1 : va_P (dC, dI) classes [(ht, .inr (0, [.ref hm, .ref hs, .ref hp, .int (nI cn), .int rn, .int (bI tr), .ref he, .int (nI ec_5), .int me_5])), (hm, .inr (1, [.int sc, .ref hn, .int (nI nk)])), (hn, .inl (cI, 16, .inl nd)), (hs, .inr (2, [.ref hw, .int (nI bl), .int dn, .int lf])), (hw, .inl (cI, 40, .inl M)), (he, .inl (cI, 3, .inl en_5))] H1 := hP1
        obtain ⟨hP, hD⟩ := va_join (wc := [(ht, .inr (0, [.ref hm, .ref hs, .ref hp, .int (nI cn), .int rn, .int (bI tr), .ref he, .int (nI ec), .int me])), (hm, .inr (1, [.int sc, .ref hn, .int (nI nk)])), (hn, .inl (cI, 16, .inl nd)), (hs, .inr (2, [.ref hw, .int (nI bl), .int dn, .int lf])), (hw, .inl (cI, 40, .inl M)), (he, .inl (cI, 3, .inl en))]) (wr := []) (w1 := [(ht, .inr (0, [.ref hm, .ref hs, .ref hp, .int (nI cn), .int rn, .int (bI tr), .ref he, .int (nI ec_5), .int me_5])), (hm, .inr (1, [.int sc, .ref hn, .int (nI nk)])), (hn, .inl (cI, 16, .inl nd)), (hs, .inr (2, [.ref hw, .int (nI bl), .int dn, .int lf])), (hw, .inl (cI, 40, .inl M)), (he, .inl (cI, 3, .inl en_5))]) hP hD [0, 1, 2, 3, 4, 5] [] rfl rfl (by decide) (by decide) zk hFc hP1 hD1
        generalize H1 = H at hP hS ⊢
        have hP : va_P (dC, dI) classes [(ht, .inr (0, [.ref hm, .ref hs, .ref hp, .int (nI cn), .int rn, .int (bI tr), .ref he, .int (nI ec_5), .int me_5])), (hm, .inr (1, [.int sc, .ref hn, .int (nI nk)])), (hn, .inl (cI, 16, .inl nd)), (hs, .inr (2, [.ref hw, .int (nI bl), .int dn, .int lf])), (hw, .inl (cI, 40, .inl M)), (he, .inl (cI, 3, .inl en_5))] H := hP.sub [0, 1, 2, 3, 4, 5] rfl
        have hD : va_D A [(ht, .inr (0, [.ref hm, .ref hs, .ref hp, .int (nI cn), .int rn, .int (bI tr), .ref he, .int (nI ec_5), .int me_5])), (hm, .inr (1, [.int sc, .ref hn, .int (nI nk)])), (hn, .inl (cI, 16, .inl nd)), (hs, .inr (2, [.ref hw, .int (nI bl), .int dn, .int lf])), (hw, .inl (cI, 40, .inl M)), (he, .inl (cI, 3, .inl en_5))] := hD.sub [0, 1, 2, 3, 4, 5] (by decide) rfl
        clear hPc hDc hFc hP1 hD1 zk zz zvm zt
        refine bz_eq (tgt := 58) hx hb d_TS_startConfirmed_51 (by decide) (fun h_6 => ?_) (fun h_6 => ?_)
        · subst h_6
          refine lv_iload_n hx hb d_TS_startConfirmed_58 rfl (lv_at hl 0 rfl) ?_
          refine lv_iconst (v := (-1)) hx hb d_TS_startConfirmed_59 (by decide) ?_
          refine lv_icmp_ne (tgt := 74) hx hb d_TS_startConfirmed_60 (by decide) (fun h_7 => ?_) (fun h_7 => ?_)
          · exact absurd h_7 (by decide)
          · refine lv_aload_n hx hb d_TS_startConfirmed_63 rfl (lv_at hl 2 rfl) ?_
            have hPc := hP.sub (ws' := [(ht, .inr (0, [.ref hm, .ref hs, .ref hp, .int (nI cn), .int rn, .int (bI tr), .ref he, .int (nI ec_5), .int me_5]))]) [0] rfl
            have hDc := hD.sub (ws' := [(ht, .inr (0, [.ref hm, .ref hs, .ref hp, .int (nI cn), .int rn, .int (bI tr), .ref he, .int (nI ec_5), .int me_5]))]) [0] (by decide) rfl
            have hFc := va_free (wc := [(ht, .inr (0, [.ref hm, .ref hs, .ref hp, .int (nI cn), .int rn, .int (bI tr), .ref he, .int (nI ec_5), .int me_5]))]) hD hS hA [0] rfl
            refine va_callv (va_runV (As := []) (rest := []) ⟨hx, hb, hml, hown, hts⟩ (c_TS_forgetStages l dC dI cI (ht := ht) (hm := hm) (hs := hs) (hp := hp) (cn := cn) (rn := rn) (tr := tr) (he := he) (ec := ec_5) (me := me_5)  (sz := H.size)) ⟨callB_of 0 hts (gd kw_301) rfl rfl rfl (hts _ kw_35) (hts _ kw_298) (by decide +kernel) ⟨Nat.le_of_ble_eq_true rfl, Nat.le_of_ble_eq_true rfl⟩, (hts _ kw_300), (hts _ kw_11)⟩ ⟨fun a U g mk q => by obtain ⟨q0, q1, qP, qK, qD⟩ := q; exact ⟨q0, q1, qP, qK.call, qD⟩, va_recv hK hP (ci := 0) rfl (q0 := 0) rfl, fun U hU hW => ⟨rfl, by rw [hU], by rw [hU]; exact hPc, hKN.warm hW, hDc.weaken (fun _ _ _ _ => trivial)⟩⟩ rfl rfl hl.1 rfl (lv_room (Nat.le_of_ble_eq_true rfl)) d_TS_startConfirmed_64 ⟨Nat.zero_le _, Nat.zero_le _⟩) hS (fun q _ h => hFc q h) hFc (fun u t H1 locs zt zvm zw zB zz zk hS => ?_)
            obtain ⟨ec_8, me_8⟩ := u
            have hu_8 := zw
            simp only [Prod.mk.injEq] at hu_8
            obtain ⟨rfl, rfl⟩ := hu_8
            obtain ⟨hP1, hD1⟩ := zB
            rw [zt] at hP1
            have hP1 : va_P (dC, dI) classes [(ht, .inr (0, [.ref hm, .ref hs, .ref hp, .int (nI cn), .int rn, .int (bI tr), .ref he, .int (nI 0), .int (nI 0)]))] H1 := hP1
            obtain ⟨hP, hD⟩ := va_join (wc := [(ht, .inr (0, [.ref hm, .ref hs, .ref hp, .int (nI cn), .int rn, .int (bI tr), .ref he, .int (nI ec_5), .int me_5]))]) (wr := [(hm, .inr (1, [.int sc, .ref hn, .int (nI nk)])), (hn, .inl (cI, 16, .inl nd)), (hs, .inr (2, [.ref hw, .int (nI bl), .int dn, .int lf])), (hw, .inl (cI, 40, .inl M)), (he, .inl (cI, 3, .inl en_5))]) (w1 := [(ht, .inr (0, [.ref hm, .ref hs, .ref hp, .int (nI cn), .int rn, .int (bI tr), .ref he, .int (nI 0), .int (nI 0)]))]) hP hD [0] [1, 2, 3, 4, 5] rfl rfl (by decide) (by decide) zk hFc hP1 hD1
            generalize H1 = H at hP hS ⊢
            have hP : va_P (dC, dI) classes [(ht, .inr (0, [.ref hm, .ref hs, .ref hp, .int (nI cn), .int rn, .int (bI tr), .ref he, .int (nI 0), .int (nI 0)])), (hm, .inr (1, [.int sc, .ref hn, .int (nI nk)])), (hn, .inl (cI, 16, .inl nd)), (hs, .inr (2, [.ref hw, .int (nI bl), .int dn, .int lf])), (hw, .inl (cI, 40, .inl M)), (he, .inl (cI, 3, .inl en_5))] H := hP.sub [5, 0, 1, 2, 3, 4] rfl
            have hD : va_D A [(ht, .inr (0, [.ref hm, .ref hs, .ref hp, .int (nI cn), .int rn, .int (bI tr), .ref he, .int (nI 0), .int (nI 0)])), (hm, .inr (1, [.int sc, .ref hn, .int (nI nk)])), (hn, .inl (cI, 16, .inl nd)), (hs, .inr (2, [.ref hw, .int (nI bl), .int dn, .int lf])), (hw, .inl (cI, 40, .inl M)), (he, .inl (cI, 3, .inl en_5))] := hD.sub [5, 0, 1, 2, 3, 4] (by decide) rfl
            clear hPc hDc hFc hP1 hD1 zk zz zvm zt
            refine lv_aload_n hx hb d_TS_startConfirmed_67 rfl (lv_at hl 2 rfl) ?_
            refine lv_iconst (v := (nI 2)) hx hb d_TS_startConfirmed_68 (by decide) ?_
            refine va_put (D := (dC, dI)) (ci := 0) (v := .int (nI 2)) (ty := .int) (C := R_TS) (T := F_TS) (N := 9) hx hb hts in_TS t_TS t_TS_ok n_TS hown hK hP hD hS 0 rfl rfl 4 (by decide) (hts _ kw_146) (fun _ h9 => h9) rfl (by decide +kernel) rfl rfl (Nat.le_of_ble_eq_true rfl) d_TS_startConfirmed_69 (fun H locs hP hD hS => ?_)
            have hP : va_P (dC, dI) classes [(ht, .inr (0, [.ref hm, .ref hs, .ref hp, .int (nI cn), .int (nI 2), .int (bI tr), .ref he, .int (nI 0), .int (nI 0)])), (hm, .inr (1, [.int sc, .ref hn, .int (nI nk)])), (hn, .inl (cI, 16, .inl nd)), (hs, .inr (2, [.ref hw, .int (nI bl), .int dn, .int lf])), (hw, .inl (cI, 40, .inl M)), (he, .inl (cI, 3, .inl en_5))] H := hP
            have hD : va_D A [(ht, .inr (0, [.ref hm, .ref hs, .ref hp, .int (nI cn), .int (nI 2), .int (bI tr), .ref he, .int (nI 0), .int (nI 0)])), (hm, .inr (1, [.int sc, .ref hn, .int (nI nk)])), (hn, .inl (cI, 16, .inl nd)), (hs, .inr (2, [.ref hw, .int (nI bl), .int dn, .int lf])), (hw, .inl (cI, 40, .inl M)), (he, .inl (cI, 3, .inl en_5))] := hD
            refine lv_iconst (v := (nI 2)) hx hb d_TS_startConfirmed_72 (by decide) ?_
            exact W.iret (v := (nI 2)) hx hb hr (fun t ht hW => ⟨⟨(nI 2), ((nI 2), tr, en_5, 0, (nI 0), bl, dn, lf), rfl, (by simp only [scC, t1, blw, hh0, h_1, h_2, hu_5, eq_self, reduceCtorEq, if_true, if_false, Nat.reduceSub]), by rw [ht]; exact hP, hD⟩, hS.F ht⟩) hS.2.2 d_TS_startConfirmed_73
        · subst h_6
          refine lv_iconst (v := (nI 1)) hx hb d_TS_startConfirmed_54 (by decide) ?_
          refine lv_iload_n hx hb d_TS_startConfirmed_55 rfl (lv_at hl 1 rfl) ?_
          refine lv_isub hx hb d_TS_startConfirmed_56 ?_
          refine tp (y := (nI 1)) (by decide) ?_
          refine lv_istore_n (lv' := [(2, .int (nI 1)), (1, .int (nI 0)), (0, .ref ht)]) hx hb d_TS_startConfirmed_57 rfl hl (by decide) rfl (fun ls hl => ?_)
          refine lv_iload_n hx hb d_TS_startConfirmed_58 rfl (lv_at hl 0 rfl) ?_
          refine lv_iconst (v := (-1)) hx hb d_TS_startConfirmed_59 (by decide) ?_
          refine lv_icmp_ne (tgt := 74) hx hb d_TS_startConfirmed_60 (by decide) (fun h_9 => ?_) (fun h_9 => ?_)
          · refine lv_aload_n hx hb d_TS_startConfirmed_74 rfl (lv_at hl 2 rfl) ?_
            refine va_get (D := (dC, dI)) (ci := 0) (v := .ref hs) (C := R_TS) (T := F_TS) (N := 9) hx hb hts in_TS hown hK hP 0 rfl rfl 1 (by decide) (hts _ kw_143) (fun _ h9 => h9) rfl d_TS_startConfirmed_75 ?_
            refine lv_aload_n hx hb d_TS_startConfirmed_78 rfl (lv_at hl 2 rfl) ?_
            refine va_get (D := (dC, dI)) (ci := 0) (v := .ref hs) (C := R_TS) (T := F_TS) (N := 9) hx hb hts in_TS hown hK hP 0 rfl rfl 1 (by decide) (hts _ kw_143) (fun _ h9 => h9) rfl d_TS_startConfirmed_79 ?_
            refine lv_iload_n hx hb d_TS_startConfirmed_82 rfl (lv_at hl 0 rfl) ?_
            refine pr_call (va_runV (As := [.int (nI 1)]) (rest := [.ref hs]) ⟨hx, hb, hml, hown, hts⟩ (c_St_versionIn l dC dI cI (hs := hs) (k := 1) (hw := hw) (bl := bl) (dn := dn) (lf := lf) (M := M) (hk := (by omega))) ⟨callB_of 1 hts (gd kw_320) rfl rfl rfl (hts _ kw_39) (hts _ kw_317) (by decide +kernel) ⟨Nat.le_of_ble_eq_true rfl, Nat.le_of_ble_eq_true rfl⟩, (hts _ kw_318), (hts _ kw_319)⟩ ⟨fun a U g mk q => by obtain ⟨q0, qP, qK⟩ := q; exact ⟨q0, qP, qK.call⟩, va_recv hK hP (ci := 2) rfl (q0 := 3) rfl, fun U hU hW => ⟨rfl, by rw [hU]; exact hP.sub [3, 4] rfl, hKN.warm hW⟩⟩ rfl rfl hl.1 rfl (lv_room (Nat.le_of_ble_eq_true rfl)) d_TS_startConfirmed_83 ⟨Nat.zero_le _, Nat.zero_le _⟩) ?_
            have hPc := hP.sub (ws' := [(hs, .inr (2, [.ref hw, .int (nI bl), .int dn, .int lf]))]) [3] rfl
            have hDc := hD.sub (ws' := [(hs, .inr (2, [.ref hw, .int (nI bl), .int dn, .int lf]))]) [3] (by decide) rfl
            have hFc := va_free (wc := [(hs, .inr (2, [.ref hw, .int (nI bl), .int dn, .int lf]))]) hD hS hA [3] rfl
            refine va_calli (va_runV (As := [.int (M (1 * 17))]) (rest := []) ⟨hx, hb, hml, hown, hts⟩ (c_St_blowUpTo l dC dI cI (hs := hs) (v := M (1 * 17)) (hw := hw) (bl := bl) (dn := dn) (lf := lf) (hbl := (by omega)) (sz := H.size)) ⟨callB_of 1 hts (gd kw_341) rfl rfl rfl (hts _ kw_39) (hts _ kw_338) (by decide +kernel) ⟨Nat.le_of_ble_eq_true rfl, Nat.le_of_ble_eq_true rfl⟩, (hts _ kw_339), (hts _ kw_340)⟩ ⟨fun a U g mk q => by obtain ⟨q0, q1, qP, qK, qD⟩ := q; exact ⟨q0, q1, qP, qK.call, qD⟩, va_recv hK hP (ci := 2) rfl (q0 := 3) rfl, fun U hU hW => ⟨rfl, by rw [hU], by rw [hU]; exact hPc, hKN.warm hW, hDc.weaken (fun _ _ _ _ => trivial)⟩⟩ rfl rfl hl.1 rfl (lv_room (Nat.le_of_ble_eq_true rfl)) d_TS_startConfirmed_86 ⟨Nat.zero_le _, Nat.zero_le _⟩) hS (fun q _ h => hFc q h) hFc (fun r u t H1 locs zt zvm zw zB zz zk hS => ?_)
            obtain ⟨bl_10, dn_10, lf_10⟩ := u
            obtain ⟨b_10, rfl, hu_10⟩ := zw
            obtain ⟨hP1, hD1⟩ := zB
            rw [zt] at hP1
            have hP1 : va_P (dC, dI) classes [(hs, .inr (2, [.ref hw, .int (nI bl_10), .int dn_10, .int lf_10]))] H1 := hP1
            obtain ⟨hP, hD⟩ := va_join (wc := [(hs, .inr (2, [.ref hw, .int (nI bl), .int dn, .int lf]))]) (wr := [(ht, .inr (0, [.ref hm, .ref hs, .ref hp, .int (nI cn), .int rn, .int (bI tr), .ref he, .int (nI ec_5), .int me_5])), (hm, .inr (1, [.int sc, .ref hn, .int (nI nk)])), (hn, .inl (cI, 16, .inl nd)), (hw, .inl (cI, 40, .inl M)), (he, .inl (cI, 3, .inl en_5))]) (w1 := [(hs, .inr (2, [.ref hw, .int (nI bl_10), .int dn_10, .int lf_10]))]) hP hD [3] [0, 1, 2, 4, 5] rfl rfl (by decide) (by decide) zk hFc hP1 hD1
            generalize H1 = H at hP hS ⊢
            have hP : va_P (dC, dI) classes [(ht, .inr (0, [.ref hm, .ref hs, .ref hp, .int (nI cn), .int rn, .int (bI tr), .ref he, .int (nI ec_5), .int me_5])), (hm, .inr (1, [.int sc, .ref hn, .int (nI nk)])), (hn, .inl (cI, 16, .inl nd)), (hs, .inr (2, [.ref hw, .int (nI bl_10), .int dn_10, .int lf_10])), (hw, .inl (cI, 40, .inl M)), (he, .inl (cI, 3, .inl en_5))] H := hP.sub [0, 1, 2, 5, 3, 4] rfl
            have hD : va_D A [(ht, .inr (0, [.ref hm, .ref hs, .ref hp, .int (nI cn), .int rn, .int (bI tr), .ref he, .int (nI ec_5), .int me_5])), (hm, .inr (1, [.int sc, .ref hn, .int (nI nk)])), (hn, .inl (cI, 16, .inl nd)), (hs, .inr (2, [.ref hw, .int (nI bl_10), .int dn_10, .int lf_10])), (hw, .inl (cI, 40, .inl M)), (he, .inl (cI, 3, .inl en_5))] := hD.sub [0, 1, 2, 5, 3, 4] (by decide) rfl
            clear hPc hDc hFc hP1 hD1 zk zz zvm zt
            refine bz_ne (tgt := 97) hx hb d_TS_startConfirmed_89 (by decide) (fun h_11 => ?_) (fun h_11 => ?_)
            · subst h_11
              refine lv_aload_n hx hb d_TS_startConfirmed_97 rfl (lv_at hl 2 rfl) ?_
              refine lv_iload_n hx hb d_TS_startConfirmed_98 rfl (lv_at hl 0 rfl) ?_
              refine va_put (D := (dC, dI)) (ci := 0) (v := .int (nI 1)) (ty := .int) (C := R_TS) (T := F_TS) (N := 9) hx hb hts in_TS t_TS t_TS_ok n_TS hown hK hP hD hS 0 rfl rfl 4 (by decide) (hts _ kw_146) (fun _ h9 => h9) rfl (by decide +kernel) rfl rfl (Nat.le_of_ble_eq_true rfl) d_TS_startConfirmed_99 (fun H locs hP hD hS => ?_)
              have hP : va_P (dC, dI) classes [(ht, .inr (0, [.ref hm, .ref hs, .ref hp, .int (nI cn), .int (nI 1), .int (bI tr), .ref he, .int (nI ec_5), .int me_5])), (hm, .inr (1, [.int sc, .ref hn, .int (nI nk)])), (hn, .inl (cI, 16, .inl nd)), (hs, .inr (2, [.ref hw, .int (nI bl_10), .int dn_10, .int lf_10])), (hw, .inl (cI, 40, .inl M)), (he, .inl (cI, 3, .inl en_5))] H := hP
              have hD : va_D A [(ht, .inr (0, [.ref hm, .ref hs, .ref hp, .int (nI cn), .int (nI 1), .int (bI tr), .ref he, .int (nI ec_5), .int me_5])), (hm, .inr (1, [.int sc, .ref hn, .int (nI nk)])), (hn, .inl (cI, 16, .inl nd)), (hs, .inr (2, [.ref hw, .int (nI bl_10), .int dn_10, .int lf_10])), (hw, .inl (cI, 40, .inl M)), (he, .inl (cI, 3, .inl en_5))] := hD
              refine lv_iload_n hx hb d_TS_startConfirmed_102 rfl (lv_at hl 0 rfl) ?_
              exact W.iret (v := (nI 1)) hx hb hr (fun t ht hW => ⟨⟨(nI 1), ((nI 1), tr, en_5, ec_5, me_5, bl_10, dn_10, lf_10), rfl, (by simp only [scC, t1, blw, hh0, h_1, h_2, hu_5, hu_10, eq_self, reduceCtorEq, if_true, if_false, Nat.reduceSub]), by rw [ht]; exact hP, hD⟩, hS.F ht⟩) hS.2.2 d_TS_startConfirmed_103
            · subst h_11
              refine lv_aload_n hx hb d_TS_startConfirmed_92 rfl (lv_at hl 2 rfl) ?_
              have hPc := hP.sub (ws' := [(ht, .inr (0, [.ref hm, .ref hs, .ref hp, .int (nI cn), .int rn, .int (bI tr), .ref he, .int (nI ec_5), .int me_5]))]) [0] rfl
              have hDc := hD.sub (ws' := [(ht, .inr (0, [.ref hm, .ref hs, .ref hp, .int (nI cn), .int rn, .int (bI tr), .ref he, .int (nI ec_5), .int me_5]))]) [0] (by decide) rfl
              have hFc := va_free (wc := [(ht, .inr (0, [.ref hm, .ref hs, .ref hp, .int (nI cn), .int rn, .int (bI tr), .ref he, .int (nI ec_5), .int me_5]))]) hD hS hA [0] rfl
              refine va_calli (va_runV (As := []) (rest := []) ⟨hx, hb, hml, hown, hts⟩ (c_TS_powerLost l dC dI cI (ht := ht) (hm := hm) (hs := hs) (hp := hp) (cn := cn) (rn := rn) (tr := tr) (he := he) (ec := ec_5) (me := me_5)  (sz := H.size)) ⟨callB_of 0 hts (gd kw_293) rfl rfl rfl (hts _ kw_35) (hts _ kw_290) (by decide +kernel) ⟨Nat.le_of_ble_eq_true rfl, Nat.le_of_ble_eq_true rfl⟩, (hts _ kw_292), (hts _ kw_9)⟩ ⟨fun a U g mk q => by obtain ⟨q0, q1, qP, qK, qD⟩ := q; exact ⟨q0, q1, qP, qK.call, qD⟩, va_recv hK hP (ci := 0) rfl (q0 := 0) rfl, fun U hU hW => ⟨rfl, by rw [hU], by rw [hU]; exact hPc, hKN.warm hW, hDc.weaken (fun _ _ _ _ => trivial)⟩⟩ rfl rfl hl.1 rfl (lv_room (Nat.le_of_ble_eq_true rfl)) d_TS_startConfirmed_93 ⟨Nat.zero_le _, Nat.zero_le _⟩) hS (fun q _ h => hFc q h) hFc (fun r u t H1 locs zt zvm zw zB zz zk hS => ?_)
              obtain ⟨rn_12, tr_12, ec_12, me_12⟩ := u
              obtain ⟨r_12, rfl⟩ : ∃ z, z = r := ⟨_, rfl⟩
              have hu_12 := zw
              simp only [Prod.mk.injEq] at hu_12
              obtain ⟨rfl, rfl, rfl, rfl, rfl⟩ := hu_12
              obtain ⟨hP1, hD1⟩ := zB
              rw [zt] at hP1
              have hP1 : va_P (dC, dI) classes [(ht, .inr (0, [.ref hm, .ref hs, .ref hp, .int (nI cn), .int (-1), .int (bI false), .ref he, .int (nI 0), .int (nI 0)]))] H1 := hP1
              obtain ⟨hP, hD⟩ := va_join (wc := [(ht, .inr (0, [.ref hm, .ref hs, .ref hp, .int (nI cn), .int rn, .int (bI tr), .ref he, .int (nI ec_5), .int me_5]))]) (wr := [(hm, .inr (1, [.int sc, .ref hn, .int (nI nk)])), (hn, .inl (cI, 16, .inl nd)), (hs, .inr (2, [.ref hw, .int (nI bl_10), .int dn_10, .int lf_10])), (hw, .inl (cI, 40, .inl M)), (he, .inl (cI, 3, .inl en_5))]) (w1 := [(ht, .inr (0, [.ref hm, .ref hs, .ref hp, .int (nI cn), .int (-1), .int (bI false), .ref he, .int (nI 0), .int (nI 0)]))]) hP hD [0] [1, 2, 3, 4, 5] rfl rfl (by decide) (by decide) zk hFc hP1 hD1
              generalize H1 = H at hP hS ⊢
              have hP : va_P (dC, dI) classes [(ht, .inr (0, [.ref hm, .ref hs, .ref hp, .int (nI cn), .int (-1), .int (bI false), .ref he, .int (nI 0), .int (nI 0)])), (hm, .inr (1, [.int sc, .ref hn, .int (nI nk)])), (hn, .inl (cI, 16, .inl nd)), (hs, .inr (2, [.ref hw, .int (nI bl_10), .int dn_10, .int lf_10])), (hw, .inl (cI, 40, .inl M)), (he, .inl (cI, 3, .inl en_5))] H := hP.sub [5, 0, 1, 2, 3, 4] rfl
              have hD : va_D A [(ht, .inr (0, [.ref hm, .ref hs, .ref hp, .int (nI cn), .int (-1), .int (bI false), .ref he, .int (nI 0), .int (nI 0)])), (hm, .inr (1, [.int sc, .ref hn, .int (nI nk)])), (hn, .inl (cI, 16, .inl nd)), (hs, .inr (2, [.ref hw, .int (nI bl_10), .int dn_10, .int lf_10])), (hw, .inl (cI, 40, .inl M)), (he, .inl (cI, 3, .inl en_5))] := hD.sub [5, 0, 1, 2, 3, 4] (by decide) rfl
              clear hPc hDc hFc hP1 hD1 zk zz zvm zt
              exact W.iret (v := (-1)) hx hb hr (fun t ht hW => ⟨⟨(-1), ((-1), false, en_5, 0, (nI 0), bl_10, dn_10, lf_10), rfl, (by simp only [scC, t1, blw, hh0, h_1, h_2, hu_5, hu_10, eq_self, reduceCtorEq, if_true, if_false, Nat.reduceSub]), by rw [ht]; exact hP, hD⟩, hS.F ht⟩) hS.2.2 d_TS_startConfirmed_96
          · exact absurd h_9 (by decide)
    · refine lv_aload_n hx hb d_TS_startConfirmed_21 rfl (lv_at hl 2 rfl) ?_
      refine lv_iload_n hx hb d_TS_startConfirmed_22 rfl (lv_at hl 1 rfl) ?_
      have hPc := hP.sub (ws' := [(ht, .inr (0, [.ref hm, .ref hs, .ref hp, .int (nI cn), .int rn, .int (bI tr), .ref he, .int (nI ec), .int me])), (hm, .inr (1, [.int sc, .ref hn, .int (nI nk)])), (hn, .inl (cI, 16, .inl nd)), (hs, .inr (2, [.ref hw, .int (nI bl), .int dn, .int lf])), (hw, .inl (cI, 40, .inl M)), (he, .inl (cI, 3, .inl en))]) [0, 1, 2, 3, 4, 5] rfl
      have hDc := hD.sub (ws' := [(ht, .inr (0, [.ref hm, .ref hs, .ref hp, .int (nI cn), .int rn, .int (bI tr), .ref he, .int (nI ec), .int me])), (hm, .inr (1, [.int sc, .ref hn, .int (nI nk)])), (hn, .inl (cI, 16, .inl nd)), (hs, .inr (2, [.ref hw, .int (nI bl), .int dn, .int lf])), (hw, .inl (cI, 40, .inl M)), (he, .inl (cI, 3, .inl en))]) [0, 1, 2, 3, 4, 5] (by decide) rfl
      have hFc := va_free (wc := [(ht, .inr (0, [.ref hm, .ref hs, .ref hp, .int (nI cn), .int rn, .int (bI tr), .ref he, .int (nI ec), .int me])), (hm, .inr (1, [.int sc, .ref hn, .int (nI nk)])), (hn, .inl (cI, 16, .inl nd)), (hs, .inr (2, [.ref hw, .int (nI bl), .int dn, .int lf])), (hw, .inl (cI, 40, .inl M)), (he, .inl (cI, 3, .inl en))]) hD hS hA [0, 1, 2, 3, 4, 5] rfl
      refine va_calli (va_runV (As := [.int (nI 0)]) (rest := []) ⟨hx, hb, hml, hown, hts⟩ (c_TS_attempt l dC dI cI (ht := ht) (k := 0) (hm := hm) (hs := hs) (hp := hp) (cn := cn) (rn := rn) (tr := tr) (he := he) (ec := ec) (me := me) (sc := sc) (hn := hn) (nk := nk) (nd := nd) (hw := hw) (bl := bl) (dn := dn) (lf := lf) (M := M) (en := en) (hk := (by omega)) (hbl := (by omega)) (sz := s.heap.size)) ⟨callB_of 1 hts (gd kw_316) rfl rfl rfl (hts _ kw_35) (hts _ kw_313) (by decide +kernel) ⟨Nat.le_of_ble_eq_true rfl, Nat.le_of_ble_eq_true rfl⟩, (hts _ kw_315), (hts _ kw_12)⟩ ⟨fun a U g mk q => by obtain ⟨q0, q1, qP, qK, qD⟩ := q; exact ⟨q0, q1, qP, qK.call, qD⟩, va_recv hK hP (ci := 0) rfl (q0 := 0) rfl, fun U hU hW => ⟨rfl, by rw [hU], by rw [hU]; exact hPc, hKN.warm hW, hDc.weaken (fun _ _ _ _ => trivial)⟩⟩ rfl rfl hl.1 rfl (lv_room (Nat.le_of_ble_eq_true rfl)) d_TS_startConfirmed_23 ⟨Nat.zero_le _, Nat.zero_le _⟩) hS (fun q _ h => hFc q h) hFc (fun r u t H1 locs zt zvm zw zB zz zk hS => ?_)
      obtain ⟨en_13, ec_13, me_13⟩ := u
      obtain ⟨b_13, rfl, hu_13⟩ := zw
      obtain ⟨hP1, hD1⟩ := zB
      rw [zt] at hP1
      have hP1 : va_P (dC, dI) classes [(ht, .inr (0, [.ref hm, .ref hs, .ref hp, .int (nI cn), .int rn, .int (bI tr), .ref he, .int (nI ec_13), .int me_13])), (hm, .inr (1, [.int sc, .ref hn, .int (nI nk)])), (hn, .inl (cI, 16, .inl nd)), (hs, .inr (2, [.ref hw, .int (nI bl), .int dn, .int lf])), (hw, .inl (cI, 40, .inl M)), (he, .inl (cI, 3, .inl en_13))] H1 := hP1
      obtain ⟨hP, hD⟩ := va_join (wc := [(ht, .inr (0, [.ref hm, .ref hs, .ref hp, .int (nI cn), .int rn, .int (bI tr), .ref he, .int (nI ec), .int me])), (hm, .inr (1, [.int sc, .ref hn, .int (nI nk)])), (hn, .inl (cI, 16, .inl nd)), (hs, .inr (2, [.ref hw, .int (nI bl), .int dn, .int lf])), (hw, .inl (cI, 40, .inl M)), (he, .inl (cI, 3, .inl en))]) (wr := []) (w1 := [(ht, .inr (0, [.ref hm, .ref hs, .ref hp, .int (nI cn), .int rn, .int (bI tr), .ref he, .int (nI ec_13), .int me_13])), (hm, .inr (1, [.int sc, .ref hn, .int (nI nk)])), (hn, .inl (cI, 16, .inl nd)), (hs, .inr (2, [.ref hw, .int (nI bl), .int dn, .int lf])), (hw, .inl (cI, 40, .inl M)), (he, .inl (cI, 3, .inl en_13))]) hP hD [0, 1, 2, 3, 4, 5] [] rfl rfl (by decide) (by decide) zk hFc hP1 hD1
      generalize H1 = H at hP hS ⊢
      have hP : va_P (dC, dI) classes [(ht, .inr (0, [.ref hm, .ref hs, .ref hp, .int (nI cn), .int rn, .int (bI tr), .ref he, .int (nI ec_13), .int me_13])), (hm, .inr (1, [.int sc, .ref hn, .int (nI nk)])), (hn, .inl (cI, 16, .inl nd)), (hs, .inr (2, [.ref hw, .int (nI bl), .int dn, .int lf])), (hw, .inl (cI, 40, .inl M)), (he, .inl (cI, 3, .inl en_13))] H := hP.sub [0, 1, 2, 3, 4, 5] rfl
      have hD : va_D A [(ht, .inr (0, [.ref hm, .ref hs, .ref hp, .int (nI cn), .int rn, .int (bI tr), .ref he, .int (nI ec_13), .int me_13])), (hm, .inr (1, [.int sc, .ref hn, .int (nI nk)])), (hn, .inl (cI, 16, .inl nd)), (hs, .inr (2, [.ref hw, .int (nI bl), .int dn, .int lf])), (hw, .inl (cI, 40, .inl M)), (he, .inl (cI, 3, .inl en_13))] := hD.sub [0, 1, 2, 3, 4, 5] (by decide) rfl
      clear hPc hDc hFc hP1 hD1 zk zz zvm zt
      refine bz_eq (tgt := 34) hx hb d_TS_startConfirmed_26 (by decide) (fun h_14 => ?_) (fun h_14 => ?_)
      · subst h_14
        refine lv_aload_n hx hb d_TS_startConfirmed_34 rfl (lv_at hl 2 rfl) ?_
        refine lv_iconst (v := (nI 1)) hx hb d_TS_startConfirmed_35 (by decide) ?_
        refine lv_iload_n hx hb d_TS_startConfirmed_36 rfl (lv_at hl 1 rfl) ?_
        refine lv_isub hx hb d_TS_startConfirmed_37 ?_
        refine tp (y := (nI 1)) (by decide) ?_
        refine pr_call (va_runV (As := [.int (nI 1)]) (rest := []) ⟨hx, hb, hml, hown, hts⟩ (c_TS_isConfirmed l dC dI cI (ht := ht) (k := 1) (hm := hm) (hs := hs) (hp := hp) (cn := cn) (rn := rn) (tr := tr) (he := he) (ec := ec_13) (me := me_13) (hw := hw) (bl := bl) (dn := dn) (lf := lf) (M := M) (hk := (by omega))) ⟨callB_of 1 hts (gd kw_336) rfl rfl rfl (hts _ kw_35) (hts _ kw_333) (by decide +kernel) ⟨Nat.le_of_ble_eq_true rfl, Nat.le_of_ble_eq_true rfl⟩, (hts _ kw_335), (hts _ kw_15)⟩ ⟨fun a U g mk q => by obtain ⟨q0, qP, qK⟩ := q; exact ⟨q0, qP, qK.call⟩, va_recv hK hP (ci := 0) rfl (q0 := 0) rfl, fun U hU hW => ⟨rfl, by rw [hU]; exact hP.sub [0, 3, 4] rfl, hKN.warm hW⟩⟩ rfl rfl hl.1 rfl (lv_room (Nat.le_of_ble_eq_true rfl)) d_TS_startConfirmed_38 ⟨Nat.zero_le _, Nat.zero_le _⟩) ?_
        refine bz_eq (tgt := 58) hx hb d_TS_startConfirmed_41 (by decide) (fun h_15 => ?_) (fun h_15 => ?_)
        · refine lv_iload_n hx hb d_TS_startConfirmed_58 rfl (lv_at hl 0 rfl) ?_
          refine lv_iconst (v := (-1)) hx hb d_TS_startConfirmed_59 (by decide) ?_
          refine lv_icmp_ne (tgt := 74) hx hb d_TS_startConfirmed_60 (by decide) (fun h_16 => ?_) (fun h_16 => ?_)
          · exact absurd h_16 (by decide)
          · refine lv_aload_n hx hb d_TS_startConfirmed_63 rfl (lv_at hl 2 rfl) ?_
            have hPc := hP.sub (ws' := [(ht, .inr (0, [.ref hm, .ref hs, .ref hp, .int (nI cn), .int rn, .int (bI tr), .ref he, .int (nI ec_13), .int me_13]))]) [0] rfl
            have hDc := hD.sub (ws' := [(ht, .inr (0, [.ref hm, .ref hs, .ref hp, .int (nI cn), .int rn, .int (bI tr), .ref he, .int (nI ec_13), .int me_13]))]) [0] (by decide) rfl
            have hFc := va_free (wc := [(ht, .inr (0, [.ref hm, .ref hs, .ref hp, .int (nI cn), .int rn, .int (bI tr), .ref he, .int (nI ec_13), .int me_13]))]) hD hS hA [0] rfl
            refine va_callv (va_runV (As := []) (rest := []) ⟨hx, hb, hml, hown, hts⟩ (c_TS_forgetStages l dC dI cI (ht := ht) (hm := hm) (hs := hs) (hp := hp) (cn := cn) (rn := rn) (tr := tr) (he := he) (ec := ec_13) (me := me_13)  (sz := H.size)) ⟨callB_of 0 hts (gd kw_301) rfl rfl rfl (hts _ kw_35) (hts _ kw_298) (by decide +kernel) ⟨Nat.le_of_ble_eq_true rfl, Nat.le_of_ble_eq_true rfl⟩, (hts _ kw_300), (hts _ kw_11)⟩ ⟨fun a U g mk q => by obtain ⟨q0, q1, qP, qK, qD⟩ := q; exact ⟨q0, q1, qP, qK.call, qD⟩, va_recv hK hP (ci := 0) rfl (q0 := 0) rfl, fun U hU hW => ⟨rfl, by rw [hU], by rw [hU]; exact hPc, hKN.warm hW, hDc.weaken (fun _ _ _ _ => trivial)⟩⟩ rfl rfl hl.1 rfl (lv_room (Nat.le_of_ble_eq_true rfl)) d_TS_startConfirmed_64 ⟨Nat.zero_le _, Nat.zero_le _⟩) hS (fun q _ h => hFc q h) hFc (fun u t H1 locs zt zvm zw zB zz zk hS => ?_)
            obtain ⟨ec_17, me_17⟩ := u
            have hu_17 := zw
            simp only [Prod.mk.injEq] at hu_17
            obtain ⟨rfl, rfl⟩ := hu_17
            obtain ⟨hP1, hD1⟩ := zB
            rw [zt] at hP1
            have hP1 : va_P (dC, dI) classes [(ht, .inr (0, [.ref hm, .ref hs, .ref hp, .int (nI cn), .int rn, .int (bI tr), .ref he, .int (nI 0), .int (nI 0)]))] H1 := hP1
            obtain ⟨hP, hD⟩ := va_join (wc := [(ht, .inr (0, [.ref hm, .ref hs, .ref hp, .int (nI cn), .int rn, .int (bI tr), .ref he, .int (nI ec_13), .int me_13]))]) (wr := [(hm, .inr (1, [.int sc, .ref hn, .int (nI nk)])), (hn, .inl (cI, 16, .inl nd)), (hs, .inr (2, [.ref hw, .int (nI bl), .int dn, .int lf])), (hw, .inl (cI, 40, .inl M)), (he, .inl (cI, 3, .inl en_13))]) (w1 := [(ht, .inr (0, [.ref hm, .ref hs, .ref hp, .int (nI cn), .int rn, .int (bI tr), .ref he, .int (nI 0), .int (nI 0)]))]) hP hD [0] [1, 2, 3, 4, 5] rfl rfl (by decide) (by decide) zk hFc hP1 hD1
            generalize H1 = H at hP hS ⊢
            have hP : va_P (dC, dI) classes [(ht, .inr (0, [.ref hm, .ref hs, .ref hp, .int (nI cn), .int rn, .int (bI tr), .ref he, .int (nI 0), .int (nI 0)])), (hm, .inr (1, [.int sc, .ref hn, .int (nI nk)])), (hn, .inl (cI, 16, .inl nd)), (hs, .inr (2, [.ref hw, .int (nI bl), .int dn, .int lf])), (hw, .inl (cI, 40, .inl M)), (he, .inl (cI, 3, .inl en_13))] H := hP.sub [5, 0, 1, 2, 3, 4] rfl
            have hD : va_D A [(ht, .inr (0, [.ref hm, .ref hs, .ref hp, .int (nI cn), .int rn, .int (bI tr), .ref he, .int (nI 0), .int (nI 0)])), (hm, .inr (1, [.int sc, .ref hn, .int (nI nk)])), (hn, .inl (cI, 16, .inl nd)), (hs, .inr (2, [.ref hw, .int (nI bl), .int dn, .int lf])), (hw, .inl (cI, 40, .inl M)), (he, .inl (cI, 3, .inl en_13))] := hD.sub [5, 0, 1, 2, 3, 4] (by decide) rfl
            clear hPc hDc hFc hP1 hD1 zk zz zvm zt
            refine lv_aload_n hx hb d_TS_startConfirmed_67 rfl (lv_at hl 2 rfl) ?_
            refine lv_iconst (v := (nI 2)) hx hb d_TS_startConfirmed_68 (by decide) ?_
            refine va_put (D := (dC, dI)) (ci := 0) (v := .int (nI 2)) (ty := .int) (C := R_TS) (T := F_TS) (N := 9) hx hb hts in_TS t_TS t_TS_ok n_TS hown hK hP hD hS 0 rfl rfl 4 (by decide) (hts _ kw_146) (fun _ h9 => h9) rfl (by decide +kernel) rfl rfl (Nat.le_of_ble_eq_true rfl) d_TS_startConfirmed_69 (fun H locs hP hD hS => ?_)
            have hP : va_P (dC, dI) classes [(ht, .inr (0, [.ref hm, .ref hs, .ref hp, .int (nI cn), .int (nI 2), .int (bI tr), .ref he, .int (nI 0), .int (nI 0)])), (hm, .inr (1, [.int sc, .ref hn, .int (nI nk)])), (hn, .inl (cI, 16, .inl nd)), (hs, .inr (2, [.ref hw, .int (nI bl), .int dn, .int lf])), (hw, .inl (cI, 40, .inl M)), (he, .inl (cI, 3, .inl en_13))] H := hP
            have hD : va_D A [(ht, .inr (0, [.ref hm, .ref hs, .ref hp, .int (nI cn), .int (nI 2), .int (bI tr), .ref he, .int (nI 0), .int (nI 0)])), (hm, .inr (1, [.int sc, .ref hn, .int (nI nk)])), (hn, .inl (cI, 16, .inl nd)), (hs, .inr (2, [.ref hw, .int (nI bl), .int dn, .int lf])), (hw, .inl (cI, 40, .inl M)), (he, .inl (cI, 3, .inl en_13))] := hD
            refine lv_iconst (v := (nI 2)) hx hb d_TS_startConfirmed_72 (by decide) ?_
            exact W.iret (v := (nI 2)) hx hb hr (fun t ht hW => ⟨⟨(nI 2), ((nI 2), tr, en_13, 0, (nI 0), bl, dn, lf), rfl, (by simp only [scC, t1, blw, hh0, h_1, hu_13, h_15, eq_self, reduceCtorEq, if_true, if_false, Nat.reduceSub]), by rw [ht]; exact hP, hD⟩, hS.F ht⟩) hS.2.2 d_TS_startConfirmed_73
        · refine lv_aload_n hx hb d_TS_startConfirmed_44 rfl (lv_at hl 2 rfl) ?_
          refine lv_iconst (v := (nI 1)) hx hb d_TS_startConfirmed_45 (by decide) ?_
          refine lv_iload_n hx hb d_TS_startConfirmed_46 rfl (lv_at hl 1 rfl) ?_
          refine lv_isub hx hb d_TS_startConfirmed_47 ?_
          refine tp (y := (nI 1)) (by decide) ?_
          have hPc := hP.sub (ws' := [(ht, .inr (0, [.ref hm, .ref hs, .ref hp, .int (nI cn), .int rn, .int (bI tr), .ref he, .int (nI ec_13), .int me_13])), (hm, .inr (1, [.int sc, .ref hn, .int (nI nk)])), (hn, .inl (cI, 16, .inl nd)), (hs, .inr (2, [.ref hw, .int (nI bl), .int dn, .int lf])), (hw, .inl (cI, 40, .inl M)), (he, .inl (cI, 3, .inl en_13))]) [0, 1, 2, 3, 4, 5] rfl
          have hDc := hD.sub (ws' := [(ht, .inr (0, [.ref hm, .ref hs, .ref hp, .int (nI cn), .int rn, .int (bI tr), .ref he, .int (nI ec_13), .int me_13])), (hm, .inr (1, [.int sc, .ref hn, .int (nI nk)])), (hn, .inl (cI, 16, .inl nd)), (hs, .inr (2, [.ref hw, .int (nI bl), .int dn, .int lf])), (hw, .inl (cI, 40, .inl M)), (he, .inl (cI, 3, .inl en_13))]) [0, 1, 2, 3, 4, 5] (by decide) rfl
          have hFc := va_free (wc := [(ht, .inr (0, [.ref hm, .ref hs, .ref hp, .int (nI cn), .int rn, .int (bI tr), .ref he, .int (nI ec_13), .int me_13])), (hm, .inr (1, [.int sc, .ref hn, .int (nI nk)])), (hn, .inl (cI, 16, .inl nd)), (hs, .inr (2, [.ref hw, .int (nI bl), .int dn, .int lf])), (hw, .inl (cI, 40, .inl M)), (he, .inl (cI, 3, .inl en_13))]) hD hS hA [0, 1, 2, 3, 4, 5] rfl
          refine va_calli (va_runV (As := [.int (nI 1)]) (rest := []) ⟨hx, hb, hml, hown, hts⟩ (c_TS_attempt l dC dI cI (ht := ht) (k := 1) (hm := hm) (hs := hs) (hp := hp) (cn := cn) (rn := rn) (tr := tr) (he := he) (ec := ec_13) (me := me_13) (sc := sc) (hn := hn) (nk := nk) (nd := nd) (hw := hw) (bl := bl) (dn := dn) (lf := lf) (M := M) (en := en_13) (hk := (by omega)) (hbl := (by omega)) (sz := H.size)) ⟨callB_of 1 hts (gd kw_316) rfl rfl rfl (hts _ kw_35) (hts _ kw_313) (by decide +kernel) ⟨Nat.le_of_ble_eq_true rfl, Nat.le_of_ble_eq_true rfl⟩, (hts _ kw_315), (hts _ kw_12)⟩ ⟨fun a U g mk q => by obtain ⟨q0, q1, qP, qK, qD⟩ := q; exact ⟨q0, q1, qP, qK.call, qD⟩, va_recv hK hP (ci := 0) rfl (q0 := 0) rfl, fun U hU hW => ⟨rfl, by rw [hU], by rw [hU]; exact hPc, hKN.warm hW, hDc.weaken (fun _ _ _ _ => trivial)⟩⟩ rfl rfl hl.1 rfl (lv_room (Nat.le_of_ble_eq_true rfl)) d_TS_startConfirmed_48 ⟨Nat.zero_le _, Nat.zero_le _⟩) hS (fun q _ h => hFc q h) hFc (fun r u t H1 locs zt zvm zw zB zz zk hS => ?_)
          obtain ⟨en_18, ec_18, me_18⟩ := u
          obtain ⟨b_18, rfl, hu_18⟩ := zw
          obtain ⟨hP1, hD1⟩ := zB
          rw [zt] at hP1
          have hP1 : va_P (dC, dI) classes [(ht, .inr (0, [.ref hm, .ref hs, .ref hp, .int (nI cn), .int rn, .int (bI tr), .ref he, .int (nI ec_18), .int me_18])), (hm, .inr (1, [.int sc, .ref hn, .int (nI nk)])), (hn, .inl (cI, 16, .inl nd)), (hs, .inr (2, [.ref hw, .int (nI bl), .int dn, .int lf])), (hw, .inl (cI, 40, .inl M)), (he, .inl (cI, 3, .inl en_18))] H1 := hP1
          obtain ⟨hP, hD⟩ := va_join (wc := [(ht, .inr (0, [.ref hm, .ref hs, .ref hp, .int (nI cn), .int rn, .int (bI tr), .ref he, .int (nI ec_13), .int me_13])), (hm, .inr (1, [.int sc, .ref hn, .int (nI nk)])), (hn, .inl (cI, 16, .inl nd)), (hs, .inr (2, [.ref hw, .int (nI bl), .int dn, .int lf])), (hw, .inl (cI, 40, .inl M)), (he, .inl (cI, 3, .inl en_13))]) (wr := []) (w1 := [(ht, .inr (0, [.ref hm, .ref hs, .ref hp, .int (nI cn), .int rn, .int (bI tr), .ref he, .int (nI ec_18), .int me_18])), (hm, .inr (1, [.int sc, .ref hn, .int (nI nk)])), (hn, .inl (cI, 16, .inl nd)), (hs, .inr (2, [.ref hw, .int (nI bl), .int dn, .int lf])), (hw, .inl (cI, 40, .inl M)), (he, .inl (cI, 3, .inl en_18))]) hP hD [0, 1, 2, 3, 4, 5] [] rfl rfl (by decide) (by decide) zk hFc hP1 hD1
          generalize H1 = H at hP hS ⊢
          have hP : va_P (dC, dI) classes [(ht, .inr (0, [.ref hm, .ref hs, .ref hp, .int (nI cn), .int rn, .int (bI tr), .ref he, .int (nI ec_18), .int me_18])), (hm, .inr (1, [.int sc, .ref hn, .int (nI nk)])), (hn, .inl (cI, 16, .inl nd)), (hs, .inr (2, [.ref hw, .int (nI bl), .int dn, .int lf])), (hw, .inl (cI, 40, .inl M)), (he, .inl (cI, 3, .inl en_18))] H := hP.sub [0, 1, 2, 3, 4, 5] rfl
          have hD : va_D A [(ht, .inr (0, [.ref hm, .ref hs, .ref hp, .int (nI cn), .int rn, .int (bI tr), .ref he, .int (nI ec_18), .int me_18])), (hm, .inr (1, [.int sc, .ref hn, .int (nI nk)])), (hn, .inl (cI, 16, .inl nd)), (hs, .inr (2, [.ref hw, .int (nI bl), .int dn, .int lf])), (hw, .inl (cI, 40, .inl M)), (he, .inl (cI, 3, .inl en_18))] := hD.sub [0, 1, 2, 3, 4, 5] (by decide) rfl
          clear hPc hDc hFc hP1 hD1 zk zz zvm zt
          refine bz_eq (tgt := 58) hx hb d_TS_startConfirmed_51 (by decide) (fun h_19 => ?_) (fun h_19 => ?_)
          · subst h_19
            refine lv_iload_n hx hb d_TS_startConfirmed_58 rfl (lv_at hl 0 rfl) ?_
            refine lv_iconst (v := (-1)) hx hb d_TS_startConfirmed_59 (by decide) ?_
            refine lv_icmp_ne (tgt := 74) hx hb d_TS_startConfirmed_60 (by decide) (fun h_20 => ?_) (fun h_20 => ?_)
            · exact absurd h_20 (by decide)
            · refine lv_aload_n hx hb d_TS_startConfirmed_63 rfl (lv_at hl 2 rfl) ?_
              have hPc := hP.sub (ws' := [(ht, .inr (0, [.ref hm, .ref hs, .ref hp, .int (nI cn), .int rn, .int (bI tr), .ref he, .int (nI ec_18), .int me_18]))]) [0] rfl
              have hDc := hD.sub (ws' := [(ht, .inr (0, [.ref hm, .ref hs, .ref hp, .int (nI cn), .int rn, .int (bI tr), .ref he, .int (nI ec_18), .int me_18]))]) [0] (by decide) rfl
              have hFc := va_free (wc := [(ht, .inr (0, [.ref hm, .ref hs, .ref hp, .int (nI cn), .int rn, .int (bI tr), .ref he, .int (nI ec_18), .int me_18]))]) hD hS hA [0] rfl
              refine va_callv (va_runV (As := []) (rest := []) ⟨hx, hb, hml, hown, hts⟩ (c_TS_forgetStages l dC dI cI (ht := ht) (hm := hm) (hs := hs) (hp := hp) (cn := cn) (rn := rn) (tr := tr) (he := he) (ec := ec_18) (me := me_18)  (sz := H.size)) ⟨callB_of 0 hts (gd kw_301) rfl rfl rfl (hts _ kw_35) (hts _ kw_298) (by decide +kernel) ⟨Nat.le_of_ble_eq_true rfl, Nat.le_of_ble_eq_true rfl⟩, (hts _ kw_300), (hts _ kw_11)⟩ ⟨fun a U g mk q => by obtain ⟨q0, q1, qP, qK, qD⟩ := q; exact ⟨q0, q1, qP, qK.call, qD⟩, va_recv hK hP (ci := 0) rfl (q0 := 0) rfl, fun U hU hW => ⟨rfl, by rw [hU], by rw [hU]; exact hPc, hKN.warm hW, hDc.weaken (fun _ _ _ _ => trivial)⟩⟩ rfl rfl hl.1 rfl (lv_room (Nat.le_of_ble_eq_true rfl)) d_TS_startConfirmed_64 ⟨Nat.zero_le _, Nat.zero_le _⟩) hS (fun q _ h => hFc q h) hFc (fun u t H1 locs zt zvm zw zB zz zk hS => ?_)
              obtain ⟨ec_21, me_21⟩ := u
              have hu_21 := zw
              simp only [Prod.mk.injEq] at hu_21
              obtain ⟨rfl, rfl⟩ := hu_21
              obtain ⟨hP1, hD1⟩ := zB
              rw [zt] at hP1
              have hP1 : va_P (dC, dI) classes [(ht, .inr (0, [.ref hm, .ref hs, .ref hp, .int (nI cn), .int rn, .int (bI tr), .ref he, .int (nI 0), .int (nI 0)]))] H1 := hP1
              obtain ⟨hP, hD⟩ := va_join (wc := [(ht, .inr (0, [.ref hm, .ref hs, .ref hp, .int (nI cn), .int rn, .int (bI tr), .ref he, .int (nI ec_18), .int me_18]))]) (wr := [(hm, .inr (1, [.int sc, .ref hn, .int (nI nk)])), (hn, .inl (cI, 16, .inl nd)), (hs, .inr (2, [.ref hw, .int (nI bl), .int dn, .int lf])), (hw, .inl (cI, 40, .inl M)), (he, .inl (cI, 3, .inl en_18))]) (w1 := [(ht, .inr (0, [.ref hm, .ref hs, .ref hp, .int (nI cn), .int rn, .int (bI tr), .ref he, .int (nI 0), .int (nI 0)]))]) hP hD [0] [1, 2, 3, 4, 5] rfl rfl (by decide) (by decide) zk hFc hP1 hD1
              generalize H1 = H at hP hS ⊢
              have hP : va_P (dC, dI) classes [(ht, .inr (0, [.ref hm, .ref hs, .ref hp, .int (nI cn), .int rn, .int (bI tr), .ref he, .int (nI 0), .int (nI 0)])), (hm, .inr (1, [.int sc, .ref hn, .int (nI nk)])), (hn, .inl (cI, 16, .inl nd)), (hs, .inr (2, [.ref hw, .int (nI bl), .int dn, .int lf])), (hw, .inl (cI, 40, .inl M)), (he, .inl (cI, 3, .inl en_18))] H := hP.sub [5, 0, 1, 2, 3, 4] rfl
              have hD : va_D A [(ht, .inr (0, [.ref hm, .ref hs, .ref hp, .int (nI cn), .int rn, .int (bI tr), .ref he, .int (nI 0), .int (nI 0)])), (hm, .inr (1, [.int sc, .ref hn, .int (nI nk)])), (hn, .inl (cI, 16, .inl nd)), (hs, .inr (2, [.ref hw, .int (nI bl), .int dn, .int lf])), (hw, .inl (cI, 40, .inl M)), (he, .inl (cI, 3, .inl en_18))] := hD.sub [5, 0, 1, 2, 3, 4] (by decide) rfl
              clear hPc hDc hFc hP1 hD1 zk zz zvm zt
              refine lv_aload_n hx hb d_TS_startConfirmed_67 rfl (lv_at hl 2 rfl) ?_
              refine lv_iconst (v := (nI 2)) hx hb d_TS_startConfirmed_68 (by decide) ?_
              refine va_put (D := (dC, dI)) (ci := 0) (v := .int (nI 2)) (ty := .int) (C := R_TS) (T := F_TS) (N := 9) hx hb hts in_TS t_TS t_TS_ok n_TS hown hK hP hD hS 0 rfl rfl 4 (by decide) (hts _ kw_146) (fun _ h9 => h9) rfl (by decide +kernel) rfl rfl (Nat.le_of_ble_eq_true rfl) d_TS_startConfirmed_69 (fun H locs hP hD hS => ?_)
              have hP : va_P (dC, dI) classes [(ht, .inr (0, [.ref hm, .ref hs, .ref hp, .int (nI cn), .int (nI 2), .int (bI tr), .ref he, .int (nI 0), .int (nI 0)])), (hm, .inr (1, [.int sc, .ref hn, .int (nI nk)])), (hn, .inl (cI, 16, .inl nd)), (hs, .inr (2, [.ref hw, .int (nI bl), .int dn, .int lf])), (hw, .inl (cI, 40, .inl M)), (he, .inl (cI, 3, .inl en_18))] H := hP
              have hD : va_D A [(ht, .inr (0, [.ref hm, .ref hs, .ref hp, .int (nI cn), .int (nI 2), .int (bI tr), .ref he, .int (nI 0), .int (nI 0)])), (hm, .inr (1, [.int sc, .ref hn, .int (nI nk)])), (hn, .inl (cI, 16, .inl nd)), (hs, .inr (2, [.ref hw, .int (nI bl), .int dn, .int lf])), (hw, .inl (cI, 40, .inl M)), (he, .inl (cI, 3, .inl en_18))] := hD
              refine lv_iconst (v := (nI 2)) hx hb d_TS_startConfirmed_72 (by decide) ?_
              exact W.iret (v := (nI 2)) hx hb hr (fun t ht hW => ⟨⟨(nI 2), ((nI 2), tr, en_18, 0, (nI 0), bl, dn, lf), rfl, (by simp only [scC, t1, blw, hh0, h_1, hu_13, h_15, hu_18, eq_self, reduceCtorEq, if_true, if_false, Nat.reduceSub]), by rw [ht]; exact hP, hD⟩, hS.F ht⟩) hS.2.2 d_TS_startConfirmed_73
          · subst h_19
            refine lv_iconst (v := (nI 1)) hx hb d_TS_startConfirmed_54 (by decide) ?_
            refine lv_iload_n hx hb d_TS_startConfirmed_55 rfl (lv_at hl 1 rfl) ?_
            refine lv_isub hx hb d_TS_startConfirmed_56 ?_
            refine tp (y := (nI 1)) (by decide) ?_
            refine lv_istore_n (lv' := [(2, .int (nI 1)), (1, .int (nI 0)), (0, .ref ht)]) hx hb d_TS_startConfirmed_57 rfl hl (by decide) rfl (fun ls hl => ?_)
            refine lv_iload_n hx hb d_TS_startConfirmed_58 rfl (lv_at hl 0 rfl) ?_
            refine lv_iconst (v := (-1)) hx hb d_TS_startConfirmed_59 (by decide) ?_
            refine lv_icmp_ne (tgt := 74) hx hb d_TS_startConfirmed_60 (by decide) (fun h_22 => ?_) (fun h_22 => ?_)
            · refine lv_aload_n hx hb d_TS_startConfirmed_74 rfl (lv_at hl 2 rfl) ?_
              refine va_get (D := (dC, dI)) (ci := 0) (v := .ref hs) (C := R_TS) (T := F_TS) (N := 9) hx hb hts in_TS hown hK hP 0 rfl rfl 1 (by decide) (hts _ kw_143) (fun _ h9 => h9) rfl d_TS_startConfirmed_75 ?_
              refine lv_aload_n hx hb d_TS_startConfirmed_78 rfl (lv_at hl 2 rfl) ?_
              refine va_get (D := (dC, dI)) (ci := 0) (v := .ref hs) (C := R_TS) (T := F_TS) (N := 9) hx hb hts in_TS hown hK hP 0 rfl rfl 1 (by decide) (hts _ kw_143) (fun _ h9 => h9) rfl d_TS_startConfirmed_79 ?_
              refine lv_iload_n hx hb d_TS_startConfirmed_82 rfl (lv_at hl 0 rfl) ?_
              refine pr_call (va_runV (As := [.int (nI 1)]) (rest := [.ref hs]) ⟨hx, hb, hml, hown, hts⟩ (c_St_versionIn l dC dI cI (hs := hs) (k := 1) (hw := hw) (bl := bl) (dn := dn) (lf := lf) (M := M) (hk := (by omega))) ⟨callB_of 1 hts (gd kw_320) rfl rfl rfl (hts _ kw_39) (hts _ kw_317) (by decide +kernel) ⟨Nat.le_of_ble_eq_true rfl, Nat.le_of_ble_eq_true rfl⟩, (hts _ kw_318), (hts _ kw_319)⟩ ⟨fun a U g mk q => by obtain ⟨q0, qP, qK⟩ := q; exact ⟨q0, qP, qK.call⟩, va_recv hK hP (ci := 2) rfl (q0 := 3) rfl, fun U hU hW => ⟨rfl, by rw [hU]; exact hP.sub [3, 4] rfl, hKN.warm hW⟩⟩ rfl rfl hl.1 rfl (lv_room (Nat.le_of_ble_eq_true rfl)) d_TS_startConfirmed_83 ⟨Nat.zero_le _, Nat.zero_le _⟩) ?_
              have hPc := hP.sub (ws' := [(hs, .inr (2, [.ref hw, .int (nI bl), .int dn, .int lf]))]) [3] rfl
              have hDc := hD.sub (ws' := [(hs, .inr (2, [.ref hw, .int (nI bl), .int dn, .int lf]))]) [3] (by decide) rfl
              have hFc := va_free (wc := [(hs, .inr (2, [.ref hw, .int (nI bl), .int dn, .int lf]))]) hD hS hA [3] rfl
              refine va_calli (va_runV (As := [.int (M (1 * 17))]) (rest := []) ⟨hx, hb, hml, hown, hts⟩ (c_St_blowUpTo l dC dI cI (hs := hs) (v := M (1 * 17)) (hw := hw) (bl := bl) (dn := dn) (lf := lf) (hbl := (by omega)) (sz := H.size)) ⟨callB_of 1 hts (gd kw_341) rfl rfl rfl (hts _ kw_39) (hts _ kw_338) (by decide +kernel) ⟨Nat.le_of_ble_eq_true rfl, Nat.le_of_ble_eq_true rfl⟩, (hts _ kw_339), (hts _ kw_340)⟩ ⟨fun a U g mk q => by obtain ⟨q0, q1, qP, qK, qD⟩ := q; exact ⟨q0, q1, qP, qK.call, qD⟩, va_recv hK hP (ci := 2) rfl (q0 := 3) rfl, fun U hU hW => ⟨rfl, by rw [hU], by rw [hU]; exact hPc, hKN.warm hW, hDc.weaken (fun _ _ _ _ => trivial)⟩⟩ rfl rfl hl.1 rfl (lv_room (Nat.le_of_ble_eq_true rfl)) d_TS_startConfirmed_86 ⟨Nat.zero_le _, Nat.zero_le _⟩) hS (fun q _ h => hFc q h) hFc (fun r u t H1 locs zt zvm zw zB zz zk hS => ?_)
              obtain ⟨bl_23, dn_23, lf_23⟩ := u
              obtain ⟨b_23, rfl, hu_23⟩ := zw
              obtain ⟨hP1, hD1⟩ := zB
              rw [zt] at hP1
              have hP1 : va_P (dC, dI) classes [(hs, .inr (2, [.ref hw, .int (nI bl_23), .int dn_23, .int lf_23]))] H1 := hP1
              obtain ⟨hP, hD⟩ := va_join (wc := [(hs, .inr (2, [.ref hw, .int (nI bl), .int dn, .int lf]))]) (wr := [(ht, .inr (0, [.ref hm, .ref hs, .ref hp, .int (nI cn), .int rn, .int (bI tr), .ref he, .int (nI ec_18), .int me_18])), (hm, .inr (1, [.int sc, .ref hn, .int (nI nk)])), (hn, .inl (cI, 16, .inl nd)), (hw, .inl (cI, 40, .inl M)), (he, .inl (cI, 3, .inl en_18))]) (w1 := [(hs, .inr (2, [.ref hw, .int (nI bl_23), .int dn_23, .int lf_23]))]) hP hD [3] [0, 1, 2, 4, 5] rfl rfl (by decide) (by decide) zk hFc hP1 hD1
              generalize H1 = H at hP hS ⊢
              have hP : va_P (dC, dI) classes [(ht, .inr (0, [.ref hm, .ref hs, .ref hp, .int (nI cn), .int rn, .int (bI tr), .ref he, .int (nI ec_18), .int me_18])), (hm, .inr (1, [.int sc, .ref hn, .int (nI nk)])), (hn, .inl (cI, 16, .inl nd)), (hs, .inr (2, [.ref hw, .int (nI bl_23), .int dn_23, .int lf_23])), (hw, .inl (cI, 40, .inl M)), (he, .inl (cI, 3, .inl en_18))] H := hP.sub [0, 1, 2, 5, 3, 4] rfl
              have hD : va_D A [(ht, .inr (0, [.ref hm, .ref hs, .ref hp, .int (nI cn), .int rn, .int (bI tr), .ref he, .int (nI ec_18), .int me_18])), (hm, .inr (1, [.int sc, .ref hn, .int (nI nk)])), (hn, .inl (cI, 16, .inl nd)), (hs, .inr (2, [.ref hw, .int (nI bl_23), .int dn_23, .int lf_23])), (hw, .inl (cI, 40, .inl M)), (he, .inl (cI, 3, .inl en_18))] := hD.sub [0, 1, 2, 5, 3, 4] (by decide) rfl
              clear hPc hDc hFc hP1 hD1 zk zz zvm zt
              refine bz_ne (tgt := 97) hx hb d_TS_startConfirmed_89 (by decide) (fun h_24 => ?_) (fun h_24 => ?_)
              · subst h_24
                refine lv_aload_n hx hb d_TS_startConfirmed_97 rfl (lv_at hl 2 rfl) ?_
                refine lv_iload_n hx hb d_TS_startConfirmed_98 rfl (lv_at hl 0 rfl) ?_
                refine va_put (D := (dC, dI)) (ci := 0) (v := .int (nI 1)) (ty := .int) (C := R_TS) (T := F_TS) (N := 9) hx hb hts in_TS t_TS t_TS_ok n_TS hown hK hP hD hS 0 rfl rfl 4 (by decide) (hts _ kw_146) (fun _ h9 => h9) rfl (by decide +kernel) rfl rfl (Nat.le_of_ble_eq_true rfl) d_TS_startConfirmed_99 (fun H locs hP hD hS => ?_)
                have hP : va_P (dC, dI) classes [(ht, .inr (0, [.ref hm, .ref hs, .ref hp, .int (nI cn), .int (nI 1), .int (bI tr), .ref he, .int (nI ec_18), .int me_18])), (hm, .inr (1, [.int sc, .ref hn, .int (nI nk)])), (hn, .inl (cI, 16, .inl nd)), (hs, .inr (2, [.ref hw, .int (nI bl_23), .int dn_23, .int lf_23])), (hw, .inl (cI, 40, .inl M)), (he, .inl (cI, 3, .inl en_18))] H := hP
                have hD : va_D A [(ht, .inr (0, [.ref hm, .ref hs, .ref hp, .int (nI cn), .int (nI 1), .int (bI tr), .ref he, .int (nI ec_18), .int me_18])), (hm, .inr (1, [.int sc, .ref hn, .int (nI nk)])), (hn, .inl (cI, 16, .inl nd)), (hs, .inr (2, [.ref hw, .int (nI bl_23), .int dn_23, .int lf_23])), (hw, .inl (cI, 40, .inl M)), (he, .inl (cI, 3, .inl en_18))] := hD
                refine lv_iload_n hx hb d_TS_startConfirmed_102 rfl (lv_at hl 0 rfl) ?_
                exact W.iret (v := (nI 1)) hx hb hr (fun t ht hW => ⟨⟨(nI 1), ((nI 1), tr, en_18, ec_18, me_18, bl_23, dn_23, lf_23), rfl, (by simp only [scC, t1, blw, hh0, h_1, hu_13, h_15, hu_18, hu_23, eq_self, reduceCtorEq, if_true, if_false, Nat.reduceSub]), by rw [ht]; exact hP, hD⟩, hS.F ht⟩) hS.2.2 d_TS_startConfirmed_103
              · subst h_24
                refine lv_aload_n hx hb d_TS_startConfirmed_92 rfl (lv_at hl 2 rfl) ?_
                have hPc := hP.sub (ws' := [(ht, .inr (0, [.ref hm, .ref hs, .ref hp, .int (nI cn), .int rn, .int (bI tr), .ref he, .int (nI ec_18), .int me_18]))]) [0] rfl
                have hDc := hD.sub (ws' := [(ht, .inr (0, [.ref hm, .ref hs, .ref hp, .int (nI cn), .int rn, .int (bI tr), .ref he, .int (nI ec_18), .int me_18]))]) [0] (by decide) rfl
                have hFc := va_free (wc := [(ht, .inr (0, [.ref hm, .ref hs, .ref hp, .int (nI cn), .int rn, .int (bI tr), .ref he, .int (nI ec_18), .int me_18]))]) hD hS hA [0] rfl
                refine va_calli (va_runV (As := []) (rest := []) ⟨hx, hb, hml, hown, hts⟩ (c_TS_powerLost l dC dI cI (ht := ht) (hm := hm) (hs := hs) (hp := hp) (cn := cn) (rn := rn) (tr := tr) (he := he) (ec := ec_18) (me := me_18)  (sz := H.size)) ⟨callB_of 0 hts (gd kw_293) rfl rfl rfl (hts _ kw_35) (hts _ kw_290) (by decide +kernel) ⟨Nat.le_of_ble_eq_true rfl, Nat.le_of_ble_eq_true rfl⟩, (hts _ kw_292), (hts _ kw_9)⟩ ⟨fun a U g mk q => by obtain ⟨q0, q1, qP, qK, qD⟩ := q; exact ⟨q0, q1, qP, qK.call, qD⟩, va_recv hK hP (ci := 0) rfl (q0 := 0) rfl, fun U hU hW => ⟨rfl, by rw [hU], by rw [hU]; exact hPc, hKN.warm hW, hDc.weaken (fun _ _ _ _ => trivial)⟩⟩ rfl rfl hl.1 rfl (lv_room (Nat.le_of_ble_eq_true rfl)) d_TS_startConfirmed_93 ⟨Nat.zero_le _, Nat.zero_le _⟩) hS (fun q _ h => hFc q h) hFc (fun r u t H1 locs zt zvm zw zB zz zk hS => ?_)
                obtain ⟨rn_25, tr_25, ec_25, me_25⟩ := u
                obtain ⟨r_25, rfl⟩ : ∃ z, z = r := ⟨_, rfl⟩
                have hu_25 := zw
                simp only [Prod.mk.injEq] at hu_25
                obtain ⟨rfl, rfl, rfl, rfl, rfl⟩ := hu_25
                obtain ⟨hP1, hD1⟩ := zB
                rw [zt] at hP1
                have hP1 : va_P (dC, dI) classes [(ht, .inr (0, [.ref hm, .ref hs, .ref hp, .int (nI cn), .int (-1), .int (bI false), .ref he, .int (nI 0), .int (nI 0)]))] H1 := hP1
                obtain ⟨hP, hD⟩ := va_join (wc := [(ht, .inr (0, [.ref hm, .ref hs, .ref hp, .int (nI cn), .int rn, .int (bI tr), .ref he, .int (nI ec_18), .int me_18]))]) (wr := [(hm, .inr (1, [.int sc, .ref hn, .int (nI nk)])), (hn, .inl (cI, 16, .inl nd)), (hs, .inr (2, [.ref hw, .int (nI bl_23), .int dn_23, .int lf_23])), (hw, .inl (cI, 40, .inl M)), (he, .inl (cI, 3, .inl en_18))]) (w1 := [(ht, .inr (0, [.ref hm, .ref hs, .ref hp, .int (nI cn), .int (-1), .int (bI false), .ref he, .int (nI 0), .int (nI 0)]))]) hP hD [0] [1, 2, 3, 4, 5] rfl rfl (by decide) (by decide) zk hFc hP1 hD1
                generalize H1 = H at hP hS ⊢
                have hP : va_P (dC, dI) classes [(ht, .inr (0, [.ref hm, .ref hs, .ref hp, .int (nI cn), .int (-1), .int (bI false), .ref he, .int (nI 0), .int (nI 0)])), (hm, .inr (1, [.int sc, .ref hn, .int (nI nk)])), (hn, .inl (cI, 16, .inl nd)), (hs, .inr (2, [.ref hw, .int (nI bl_23), .int dn_23, .int lf_23])), (hw, .inl (cI, 40, .inl M)), (he, .inl (cI, 3, .inl en_18))] H := hP.sub [5, 0, 1, 2, 3, 4] rfl
                have hD : va_D A [(ht, .inr (0, [.ref hm, .ref hs, .ref hp, .int (nI cn), .int (-1), .int (bI false), .ref he, .int (nI 0), .int (nI 0)])), (hm, .inr (1, [.int sc, .ref hn, .int (nI nk)])), (hn, .inl (cI, 16, .inl nd)), (hs, .inr (2, [.ref hw, .int (nI bl_23), .int dn_23, .int lf_23])), (hw, .inl (cI, 40, .inl M)), (he, .inl (cI, 3, .inl en_18))] := hD.sub [5, 0, 1, 2, 3, 4] (by decide) rfl
                clear hPc hDc hFc hP1 hD1 zk zz zvm zt
                exact W.iret (v := (-1)) hx hb hr (fun t ht hW => ⟨⟨(-1), ((-1), false, en_18, 0, (nI 0), bl_23, dn_23, lf_23), rfl, (by simp only [scC, t1, blw, hh0, h_1, hu_13, h_15, hu_18, hu_23, eq_self, reduceCtorEq, if_true, if_false, Nat.reduceSub]), by rw [ht]; exact hP, hD⟩, hS.F ht⟩) hS.2.2 d_TS_startConfirmed_96
            · exact absurd h_22 (by decide)
      · subst h_14
        refine lv_iload_n hx hb d_TS_startConfirmed_29 rfl (lv_at hl 1 rfl) ?_
        refine lv_istore_n (lv' := [(2, .int (nI 0)), (1, .int (nI 0)), (0, .ref ht)]) hx hb d_TS_startConfirmed_30 rfl hl (by decide) rfl (fun ls hl => ?_)
        refine lv_goto (tgt := 58) hx hb d_TS_startConfirmed_31 (by decide) ?_
        refine lv_iload_n hx hb d_TS_startConfirmed_58 rfl (lv_at hl 0 rfl) ?_
        refine lv_iconst (v := (-1)) hx hb d_TS_startConfirmed_59 (by decide) ?_
        refine lv_icmp_ne (tgt := 74) hx hb d_TS_startConfirmed_60 (by decide) (fun h_26 => ?_) (fun h_26 => ?_)
        · refine lv_aload_n hx hb d_TS_startConfirmed_74 rfl (lv_at hl 2 rfl) ?_
          refine va_get (D := (dC, dI)) (ci := 0) (v := .ref hs) (C := R_TS) (T := F_TS) (N := 9) hx hb hts in_TS hown hK hP 0 rfl rfl 1 (by decide) (hts _ kw_143) (fun _ h9 => h9) rfl d_TS_startConfirmed_75 ?_
          refine lv_aload_n hx hb d_TS_startConfirmed_78 rfl (lv_at hl 2 rfl) ?_
          refine va_get (D := (dC, dI)) (ci := 0) (v := .ref hs) (C := R_TS) (T := F_TS) (N := 9) hx hb hts in_TS hown hK hP 0 rfl rfl 1 (by decide) (hts _ kw_143) (fun _ h9 => h9) rfl d_TS_startConfirmed_79 ?_
          refine lv_iload_n hx hb d_TS_startConfirmed_82 rfl (lv_at hl 0 rfl) ?_
          refine pr_call (va_runV (As := [.int (nI 0)]) (rest := [.ref hs]) ⟨hx, hb, hml, hown, hts⟩ (c_St_versionIn l dC dI cI (hs := hs) (k := 0) (hw := hw) (bl := bl) (dn := dn) (lf := lf) (M := M) (hk := (by omega))) ⟨callB_of 1 hts (gd kw_320) rfl rfl rfl (hts _ kw_39) (hts _ kw_317) (by decide +kernel) ⟨Nat.le_of_ble_eq_true rfl, Nat.le_of_ble_eq_true rfl⟩, (hts _ kw_318), (hts _ kw_319)⟩ ⟨fun a U g mk q => by obtain ⟨q0, qP, qK⟩ := q; exact ⟨q0, qP, qK.call⟩, va_recv hK hP (ci := 2) rfl (q0 := 3) rfl, fun U hU hW => ⟨rfl, by rw [hU]; exact hP.sub [3, 4] rfl, hKN.warm hW⟩⟩ rfl rfl hl.1 rfl (lv_room (Nat.le_of_ble_eq_true rfl)) d_TS_startConfirmed_83 ⟨Nat.zero_le _, Nat.zero_le _⟩) ?_
          have hPc := hP.sub (ws' := [(hs, .inr (2, [.ref hw, .int (nI bl), .int dn, .int lf]))]) [3] rfl
          have hDc := hD.sub (ws' := [(hs, .inr (2, [.ref hw, .int (nI bl), .int dn, .int lf]))]) [3] (by decide) rfl
          have hFc := va_free (wc := [(hs, .inr (2, [.ref hw, .int (nI bl), .int dn, .int lf]))]) hD hS hA [3] rfl
          refine va_calli (va_runV (As := [.int (M (0 * 17))]) (rest := []) ⟨hx, hb, hml, hown, hts⟩ (c_St_blowUpTo l dC dI cI (hs := hs) (v := M (0 * 17)) (hw := hw) (bl := bl) (dn := dn) (lf := lf) (hbl := (by omega)) (sz := H.size)) ⟨callB_of 1 hts (gd kw_341) rfl rfl rfl (hts _ kw_39) (hts _ kw_338) (by decide +kernel) ⟨Nat.le_of_ble_eq_true rfl, Nat.le_of_ble_eq_true rfl⟩, (hts _ kw_339), (hts _ kw_340)⟩ ⟨fun a U g mk q => by obtain ⟨q0, q1, qP, qK, qD⟩ := q; exact ⟨q0, q1, qP, qK.call, qD⟩, va_recv hK hP (ci := 2) rfl (q0 := 3) rfl, fun U hU hW => ⟨rfl, by rw [hU], by rw [hU]; exact hPc, hKN.warm hW, hDc.weaken (fun _ _ _ _ => trivial)⟩⟩ rfl rfl hl.1 rfl (lv_room (Nat.le_of_ble_eq_true rfl)) d_TS_startConfirmed_86 ⟨Nat.zero_le _, Nat.zero_le _⟩) hS (fun q _ h => hFc q h) hFc (fun r u t H1 locs zt zvm zw zB zz zk hS => ?_)
          obtain ⟨bl_27, dn_27, lf_27⟩ := u
          obtain ⟨b_27, rfl, hu_27⟩ := zw
          obtain ⟨hP1, hD1⟩ := zB
          rw [zt] at hP1
          have hP1 : va_P (dC, dI) classes [(hs, .inr (2, [.ref hw, .int (nI bl_27), .int dn_27, .int lf_27]))] H1 := hP1
          obtain ⟨hP, hD⟩ := va_join (wc := [(hs, .inr (2, [.ref hw, .int (nI bl), .int dn, .int lf]))]) (wr := [(ht, .inr (0, [.ref hm, .ref hs, .ref hp, .int (nI cn), .int rn, .int (bI tr), .ref he, .int (nI ec_13), .int me_13])), (hm, .inr (1, [.int sc, .ref hn, .int (nI nk)])), (hn, .inl (cI, 16, .inl nd)), (hw, .inl (cI, 40, .inl M)), (he, .inl (cI, 3, .inl en_13))]) (w1 := [(hs, .inr (2, [.ref hw, .int (nI bl_27), .int dn_27, .int lf_27]))]) hP hD [3] [0, 1, 2, 4, 5] rfl rfl (by decide) (by decide) zk hFc hP1 hD1
          generalize H1 = H at hP hS ⊢
          have hP : va_P (dC, dI) classes [(ht, .inr (0, [.ref hm, .ref hs, .ref hp, .int (nI cn), .int rn, .int (bI tr), .ref he, .int (nI ec_13), .int me_13])), (hm, .inr (1, [.int sc, .ref hn, .int (nI nk)])), (hn, .inl (cI, 16, .inl nd)), (hs, .inr (2, [.ref hw, .int (nI bl_27), .int dn_27, .int lf_27])), (hw, .inl (cI, 40, .inl M)), (he, .inl (cI, 3, .inl en_13))] H := hP.sub [0, 1, 2, 5, 3, 4] rfl
          have hD : va_D A [(ht, .inr (0, [.ref hm, .ref hs, .ref hp, .int (nI cn), .int rn, .int (bI tr), .ref he, .int (nI ec_13), .int me_13])), (hm, .inr (1, [.int sc, .ref hn, .int (nI nk)])), (hn, .inl (cI, 16, .inl nd)), (hs, .inr (2, [.ref hw, .int (nI bl_27), .int dn_27, .int lf_27])), (hw, .inl (cI, 40, .inl M)), (he, .inl (cI, 3, .inl en_13))] := hD.sub [0, 1, 2, 5, 3, 4] (by decide) rfl
          clear hPc hDc hFc hP1 hD1 zk zz zvm zt
          refine bz_ne (tgt := 97) hx hb d_TS_startConfirmed_89 (by decide) (fun h_28 => ?_) (fun h_28 => ?_)
          · subst h_28
            refine lv_aload_n hx hb d_TS_startConfirmed_97 rfl (lv_at hl 2 rfl) ?_
            refine lv_iload_n hx hb d_TS_startConfirmed_98 rfl (lv_at hl 0 rfl) ?_
            refine va_put (D := (dC, dI)) (ci := 0) (v := .int (nI 0)) (ty := .int) (C := R_TS) (T := F_TS) (N := 9) hx hb hts in_TS t_TS t_TS_ok n_TS hown hK hP hD hS 0 rfl rfl 4 (by decide) (hts _ kw_146) (fun _ h9 => h9) rfl (by decide +kernel) rfl rfl (Nat.le_of_ble_eq_true rfl) d_TS_startConfirmed_99 (fun H locs hP hD hS => ?_)
            have hP : va_P (dC, dI) classes [(ht, .inr (0, [.ref hm, .ref hs, .ref hp, .int (nI cn), .int (nI 0), .int (bI tr), .ref he, .int (nI ec_13), .int me_13])), (hm, .inr (1, [.int sc, .ref hn, .int (nI nk)])), (hn, .inl (cI, 16, .inl nd)), (hs, .inr (2, [.ref hw, .int (nI bl_27), .int dn_27, .int lf_27])), (hw, .inl (cI, 40, .inl M)), (he, .inl (cI, 3, .inl en_13))] H := hP
            have hD : va_D A [(ht, .inr (0, [.ref hm, .ref hs, .ref hp, .int (nI cn), .int (nI 0), .int (bI tr), .ref he, .int (nI ec_13), .int me_13])), (hm, .inr (1, [.int sc, .ref hn, .int (nI nk)])), (hn, .inl (cI, 16, .inl nd)), (hs, .inr (2, [.ref hw, .int (nI bl_27), .int dn_27, .int lf_27])), (hw, .inl (cI, 40, .inl M)), (he, .inl (cI, 3, .inl en_13))] := hD
            refine lv_iload_n hx hb d_TS_startConfirmed_102 rfl (lv_at hl 0 rfl) ?_
            exact W.iret (v := (nI 0)) hx hb hr (fun t ht hW => ⟨⟨(nI 0), ((nI 0), tr, en_13, ec_13, me_13, bl_27, dn_27, lf_27), rfl, (by simp only [scC, t1, blw, hh0, h_1, hu_13, hu_27, eq_self, reduceCtorEq, if_true, if_false, Nat.reduceSub]), by rw [ht]; exact hP, hD⟩, hS.F ht⟩) hS.2.2 d_TS_startConfirmed_103
          · subst h_28
            refine lv_aload_n hx hb d_TS_startConfirmed_92 rfl (lv_at hl 2 rfl) ?_
            have hPc := hP.sub (ws' := [(ht, .inr (0, [.ref hm, .ref hs, .ref hp, .int (nI cn), .int rn, .int (bI tr), .ref he, .int (nI ec_13), .int me_13]))]) [0] rfl
            have hDc := hD.sub (ws' := [(ht, .inr (0, [.ref hm, .ref hs, .ref hp, .int (nI cn), .int rn, .int (bI tr), .ref he, .int (nI ec_13), .int me_13]))]) [0] (by decide) rfl
            have hFc := va_free (wc := [(ht, .inr (0, [.ref hm, .ref hs, .ref hp, .int (nI cn), .int rn, .int (bI tr), .ref he, .int (nI ec_13), .int me_13]))]) hD hS hA [0] rfl
            refine va_calli (va_runV (As := []) (rest := []) ⟨hx, hb, hml, hown, hts⟩ (c_TS_powerLost l dC dI cI (ht := ht) (hm := hm) (hs := hs) (hp := hp) (cn := cn) (rn := rn) (tr := tr) (he := he) (ec := ec_13) (me := me_13)  (sz := H.size)) ⟨callB_of 0 hts (gd kw_293) rfl rfl rfl (hts _ kw_35) (hts _ kw_290) (by decide +kernel) ⟨Nat.le_of_ble_eq_true rfl, Nat.le_of_ble_eq_true rfl⟩, (hts _ kw_292), (hts _ kw_9)⟩ ⟨fun a U g mk q => by obtain ⟨q0, q1, qP, qK, qD⟩ := q; exact ⟨q0, q1, qP, qK.call, qD⟩, va_recv hK hP (ci := 0) rfl (q0 := 0) rfl, fun U hU hW => ⟨rfl, by rw [hU], by rw [hU]; exact hPc, hKN.warm hW, hDc.weaken (fun _ _ _ _ => trivial)⟩⟩ rfl rfl hl.1 rfl (lv_room (Nat.le_of_ble_eq_true rfl)) d_TS_startConfirmed_93 ⟨Nat.zero_le _, Nat.zero_le _⟩) hS (fun q _ h => hFc q h) hFc (fun r u t H1 locs zt zvm zw zB zz zk hS => ?_)
            obtain ⟨rn_29, tr_29, ec_29, me_29⟩ := u
            obtain ⟨r_29, rfl⟩ : ∃ z, z = r := ⟨_, rfl⟩
            have hu_29 := zw
            simp only [Prod.mk.injEq] at hu_29
            obtain ⟨rfl, rfl, rfl, rfl, rfl⟩ := hu_29
            obtain ⟨hP1, hD1⟩ := zB
            rw [zt] at hP1
            have hP1 : va_P (dC, dI) classes [(ht, .inr (0, [.ref hm, .ref hs, .ref hp, .int (nI cn), .int (-1), .int (bI false), .ref he, .int (nI 0), .int (nI 0)]))] H1 := hP1
            obtain ⟨hP, hD⟩ := va_join (wc := [(ht, .inr (0, [.ref hm, .ref hs, .ref hp, .int (nI cn), .int rn, .int (bI tr), .ref he, .int (nI ec_13), .int me_13]))]) (wr := [(hm, .inr (1, [.int sc, .ref hn, .int (nI nk)])), (hn, .inl (cI, 16, .inl nd)), (hs, .inr (2, [.ref hw, .int (nI bl_27), .int dn_27, .int lf_27])), (hw, .inl (cI, 40, .inl M)), (he, .inl (cI, 3, .inl en_13))]) (w1 := [(ht, .inr (0, [.ref hm, .ref hs, .ref hp, .int (nI cn), .int (-1), .int (bI false), .ref he, .int (nI 0), .int (nI 0)]))]) hP hD [0] [1, 2, 3, 4, 5] rfl rfl (by decide) (by decide) zk hFc hP1 hD1
            generalize H1 = H at hP hS ⊢
            have hP : va_P (dC, dI) classes [(ht, .inr (0, [.ref hm, .ref hs, .ref hp, .int (nI cn), .int (-1), .int (bI false), .ref he, .int (nI 0), .int (nI 0)])), (hm, .inr (1, [.int sc, .ref hn, .int (nI nk)])), (hn, .inl (cI, 16, .inl nd)), (hs, .inr (2, [.ref hw, .int (nI bl_27), .int dn_27, .int lf_27])), (hw, .inl (cI, 40, .inl M)), (he, .inl (cI, 3, .inl en_13))] H := hP.sub [5, 0, 1, 2, 3, 4] rfl
            have hD : va_D A [(ht, .inr (0, [.ref hm, .ref hs, .ref hp, .int (nI cn), .int (-1), .int (bI false), .ref he, .int (nI 0), .int (nI 0)])), (hm, .inr (1, [.int sc, .ref hn, .int (nI nk)])), (hn, .inl (cI, 16, .inl nd)), (hs, .inr (2, [.ref hw, .int (nI bl_27), .int dn_27, .int lf_27])), (hw, .inl (cI, 40, .inl M)), (he, .inl (cI, 3, .inl en_13))] := hD.sub [5, 0, 1, 2, 3, 4] (by decide) rfl
            clear hPc hDc hFc hP1 hD1 zk zz zvm zt
            exact W.iret (v := (-1)) hx hb hr (fun t ht hW => ⟨⟨(-1), ((-1), false, en_13, 0, (nI 0), bl_27, dn_27, lf_27), rfl, (by simp only [scC, t1, blw, hh0, h_1, hu_13, hu_27, eq_self, reduceCtorEq, if_true, if_false, Nat.reduceSub]), by rw [ht]; exact hP, hD⟩, hS.F ht⟩) hS.2.2 d_TS_startConfirmed_96
        · exact absurd h_26 (by decide)
  · refine tp (congrArg nI hh0) ?_
    refine lv_istore_n (lv' := [(1, .int (nI 1)), (0, .ref ht)]) hx hb d_TS_startConfirmed_10 rfl hl (by decide) rfl (fun ls hl => ?_)
    refine lv_iconst (v := (-1)) hx hb d_TS_startConfirmed_11 (by decide) ?_
    refine lv_istore_n (lv' := [(2, .int (-1)), (1, .int (nI 1)), (0, .ref ht)]) hx hb d_TS_startConfirmed_12 rfl hl (by decide) rfl (fun ls hl => ?_)
    refine lv_aload_n hx hb d_TS_startConfirmed_13 rfl (lv_at hl 2 rfl) ?_
    refine lv_iload_n hx hb d_TS_startConfirmed_14 rfl (lv_at hl 1 rfl) ?_
    refine pr_call (va_runV (As := [.int (nI 1)]) (rest := []) ⟨hx, hb, hml, hown, hts⟩ (c_TS_isConfirmed l dC dI cI (ht := ht) (k := 1) (hm := hm) (hs := hs) (hp := hp) (cn := cn) (rn := rn) (tr := tr) (he := he) (ec := ec) (me := me) (hw := hw) (bl := bl) (dn := dn) (lf := lf) (M := M) (hk := (by omega))) ⟨callB_of 1 hts (gd kw_336) rfl rfl rfl (hts _ kw_35) (hts _ kw_333) (by decide +kernel) ⟨Nat.le_of_ble_eq_true rfl, Nat.le_of_ble_eq_true rfl⟩, (hts _ kw_335), (hts _ kw_15)⟩ ⟨fun a U g mk q => by obtain ⟨q0, qP, qK⟩ := q; exact ⟨q0, qP, qK.call⟩, va_recv hK hP (ci := 0) rfl (q0 := 0) rfl, fun U hU hW => ⟨rfl, by rw [hU]; exact hP.sub [0, 3, 4] rfl, hKN.warm hW⟩⟩ rfl rfl hl.1 rfl (lv_room (Nat.le_of_ble_eq_true rfl)) d_TS_startConfirmed_15 ⟨Nat.zero_le _, Nat.zero_le _⟩) ?_
    refine bz_eq (tgt := 34) hx hb d_TS_startConfirmed_18 (by decide) (fun h_30 => ?_) (fun h_30 => ?_)
    · refine lv_aload_n hx hb d_TS_startConfirmed_34 rfl (lv_at hl 2 rfl) ?_
      refine lv_iconst (v := (nI 1)) hx hb d_TS_startConfirmed_35 (by decide) ?_
      refine lv_iload_n hx hb d_TS_startConfirmed_36 rfl (lv_at hl 1 rfl) ?_
      refine lv_isub hx hb d_TS_startConfirmed_37 ?_
      refine tp (y := (nI 0)) (by decide) ?_
      refine pr_call (va_runV (As := [.int (nI 0)]) (rest := []) ⟨hx, hb, hml, hown, hts⟩ (c_TS_isConfirmed l dC dI cI (ht := ht) (k := 0) (hm := hm) (hs := hs) (hp := hp) (cn := cn) (rn := rn) (tr := tr) (he := he) (ec := ec) (me := me) (hw := hw) (bl := bl) (dn := dn) (lf := lf) (M := M) (hk := (by omega))) ⟨callB_of 1 hts (gd kw_336) rfl rfl rfl (hts _ kw_35) (hts _ kw_333) (by decide +kernel) ⟨Nat.le_of_ble_eq_true rfl, Nat.le_of_ble_eq_true rfl⟩, (hts _ kw_335), (hts _ kw_15)⟩ ⟨fun a U g mk q => by obtain ⟨q0, qP, qK⟩ := q; exact ⟨q0, qP, qK.call⟩, va_recv hK hP (ci := 0) rfl (q0 := 0) rfl, fun U hU hW => ⟨rfl, by rw [hU]; exact hP.sub [0, 3, 4] rfl, hKN.warm hW⟩⟩ rfl rfl hl.1 rfl (lv_room (Nat.le_of_ble_eq_true rfl)) d_TS_startConfirmed_38 ⟨Nat.zero_le _, Nat.zero_le _⟩) ?_
      refine bz_eq (tgt := 58) hx hb d_TS_startConfirmed_41 (by decide) (fun h_31 => ?_) (fun h_31 => ?_)
      · refine lv_iload_n hx hb d_TS_startConfirmed_58 rfl (lv_at hl 0 rfl) ?_
        refine lv_iconst (v := (-1)) hx hb d_TS_startConfirmed_59 (by decide) ?_
        refine lv_icmp_ne (tgt := 74) hx hb d_TS_startConfirmed_60 (by decide) (fun h_32 => ?_) (fun h_32 => ?_)
        · exact absurd h_32 (by decide)
        · refine lv_aload_n hx hb d_TS_startConfirmed_63 rfl (lv_at hl 2 rfl) ?_
          have hPc := hP.sub (ws' := [(ht, .inr (0, [.ref hm, .ref hs, .ref hp, .int (nI cn), .int rn, .int (bI tr), .ref he, .int (nI ec), .int me]))]) [0] rfl
          have hDc := hD.sub (ws' := [(ht, .inr (0, [.ref hm, .ref hs, .ref hp, .int (nI cn), .int rn, .int (bI tr), .ref he, .int (nI ec), .int me]))]) [0] (by decide) rfl
          have hFc := va_free (wc := [(ht, .inr (0, [.ref hm, .ref hs, .ref hp, .int (nI cn), .int rn, .int (bI tr), .ref he, .int (nI ec), .int me]))]) hD hS hA [0] rfl
          refine va_callv (va_runV (As := []) (rest := []) ⟨hx, hb, hml, hown, hts⟩ (c_TS_forgetStages l dC dI cI (ht := ht) (hm := hm) (hs := hs) (hp := hp) (cn := cn) (rn := rn) (tr := tr) (he := he) (ec := ec) (me := me)  (sz := s.heap.size)) ⟨callB_of 0 hts (gd kw_301) rfl rfl rfl (hts _ kw_35) (hts _ kw_298) (by decide +kernel) ⟨Nat.le_of_ble_eq_true rfl, Nat.le_of_ble_eq_true rfl⟩, (hts _ kw_300), (hts _ kw_11)⟩ ⟨fun a U g mk q => by obtain ⟨q0, q1, qP, qK, qD⟩ := q; exact ⟨q0, q1, qP, qK.call, qD⟩, va_recv hK hP (ci := 0) rfl (q0 := 0) rfl, fun U hU hW => ⟨rfl, by rw [hU], by rw [hU]; exact hPc, hKN.warm hW, hDc.weaken (fun _ _ _ _ => trivial)⟩⟩ rfl rfl hl.1 rfl (lv_room (Nat.le_of_ble_eq_true rfl)) d_TS_startConfirmed_64 ⟨Nat.zero_le _, Nat.zero_le _⟩) hS (fun q _ h => hFc q h) hFc (fun u t H1 locs zt zvm zw zB zz zk hS => ?_)
          obtain ⟨ec_33, me_33⟩ := u
          have hu_33 := zw
          simp only [Prod.mk.injEq] at hu_33
          obtain ⟨rfl, rfl⟩ := hu_33
          obtain ⟨hP1, hD1⟩ := zB
          rw [zt] at hP1
          have hP1 : va_P (dC, dI) classes [(ht, .inr (0, [.ref hm, .ref hs, .ref hp, .int (nI cn), .int rn, .int (bI tr), .ref he, .int (nI 0), .int (nI 0)]))] H1 := hP1
          obtain ⟨hP, hD⟩ := va_join (wc := [(ht, .inr (0, [.ref hm, .ref hs, .ref hp, .int (nI cn), .int rn, .int (bI tr), .ref he, .int (nI ec), .int me]))]) (wr := [(hm, .inr (1, [.int sc, .ref hn, .int (nI nk)])), (hn, .inl (cI, 16, .inl nd)), (hs, .inr (2, [.ref hw, .int (nI bl), .int dn, .int lf])), (hw, .inl (cI, 40, .inl M)), (he, .inl (cI, 3, .inl en))]) (w1 := [(ht, .inr (0, [.ref hm, .ref hs, .ref hp, .int (nI cn), .int rn, .int (bI tr), .ref he, .int (nI 0), .int (nI 0)]))]) hP hD [0] [1, 2, 3, 4, 5] rfl rfl (by decide) (by decide) zk hFc hP1 hD1
          generalize H1 = H at hP hS ⊢
          have hP : va_P (dC, dI) classes [(ht, .inr (0, [.ref hm, .ref hs, .ref hp, .int (nI cn), .int rn, .int (bI tr), .ref he, .int (nI 0), .int (nI 0)])), (hm, .inr (1, [.int sc, .ref hn, .int (nI nk)])), (hn, .inl (cI, 16, .inl nd)), (hs, .inr (2, [.ref hw, .int (nI bl), .int dn, .int lf])), (hw, .inl (cI, 40, .inl M)), (he, .inl (cI, 3, .inl en))] H := hP.sub [5, 0, 1, 2, 3, 4] rfl
          have hD : va_D A [(ht, .inr (0, [.ref hm, .ref hs, .ref hp, .int (nI cn), .int rn, .int (bI tr), .ref he, .int (nI 0), .int (nI 0)])), (hm, .inr (1, [.int sc, .ref hn, .int (nI nk)])), (hn, .inl (cI, 16, .inl nd)), (hs, .inr (2, [.ref hw, .int (nI bl), .int dn, .int lf])), (hw, .inl (cI, 40, .inl M)), (he, .inl (cI, 3, .inl en))] := hD.sub [5, 0, 1, 2, 3, 4] (by decide) rfl
          clear hPc hDc hFc hP1 hD1 zk zz zvm zt
          refine lv_aload_n hx hb d_TS_startConfirmed_67 rfl (lv_at hl 2 rfl) ?_
          refine lv_iconst (v := (nI 2)) hx hb d_TS_startConfirmed_68 (by decide) ?_
          refine va_put (D := (dC, dI)) (ci := 0) (v := .int (nI 2)) (ty := .int) (C := R_TS) (T := F_TS) (N := 9) hx hb hts in_TS t_TS t_TS_ok n_TS hown hK hP hD hS 0 rfl rfl 4 (by decide) (hts _ kw_146) (fun _ h9 => h9) rfl (by decide +kernel) rfl rfl (Nat.le_of_ble_eq_true rfl) d_TS_startConfirmed_69 (fun H locs hP hD hS => ?_)
          have hP : va_P (dC, dI) classes [(ht, .inr (0, [.ref hm, .ref hs, .ref hp, .int (nI cn), .int (nI 2), .int (bI tr), .ref he, .int (nI 0), .int (nI 0)])), (hm, .inr (1, [.int sc, .ref hn, .int (nI nk)])), (hn, .inl (cI, 16, .inl nd)), (hs, .inr (2, [.ref hw, .int (nI bl), .int dn, .int lf])), (hw, .inl (cI, 40, .inl M)), (he, .inl (cI, 3, .inl en))] H := hP
          have hD : va_D A [(ht, .inr (0, [.ref hm, .ref hs, .ref hp, .int (nI cn), .int (nI 2), .int (bI tr), .ref he, .int (nI 0), .int (nI 0)])), (hm, .inr (1, [.int sc, .ref hn, .int (nI nk)])), (hn, .inl (cI, 16, .inl nd)), (hs, .inr (2, [.ref hw, .int (nI bl), .int dn, .int lf])), (hw, .inl (cI, 40, .inl M)), (he, .inl (cI, 3, .inl en))] := hD
          refine lv_iconst (v := (nI 2)) hx hb d_TS_startConfirmed_72 (by decide) ?_
          exact W.iret (v := (nI 2)) hx hb hr (fun t ht hW => ⟨⟨(nI 2), ((nI 2), tr, en, 0, (nI 0), bl, dn, lf), rfl, (by simp only [scC, t1, blw, hh0, h_30, h_31, eq_self, reduceCtorEq, if_true, if_false, Nat.reduceSub]), by rw [ht]; exact hP, hD⟩, hS.F ht⟩) hS.2.2 d_TS_startConfirmed_73
      · refine lv_aload_n hx hb d_TS_startConfirmed_44 rfl (lv_at hl 2 rfl) ?_
        refine lv_iconst (v := (nI 1)) hx hb d_TS_startConfirmed_45 (by decide) ?_
        refine lv_iload_n hx hb d_TS_startConfirmed_46 rfl (lv_at hl 1 rfl) ?_
        refine lv_isub hx hb d_TS_startConfirmed_47 ?_
        refine tp (y := (nI 0)) (by decide) ?_
        have hPc := hP.sub (ws' := [(ht, .inr (0, [.ref hm, .ref hs, .ref hp, .int (nI cn), .int rn, .int (bI tr), .ref he, .int (nI ec), .int me])), (hm, .inr (1, [.int sc, .ref hn, .int (nI nk)])), (hn, .inl (cI, 16, .inl nd)), (hs, .inr (2, [.ref hw, .int (nI bl), .int dn, .int lf])), (hw, .inl (cI, 40, .inl M)), (he, .inl (cI, 3, .inl en))]) [0, 1, 2, 3, 4, 5] rfl
        have hDc := hD.sub (ws' := [(ht, .inr (0, [.ref hm, .ref hs, .ref hp, .int (nI cn), .int rn, .int (bI tr), .ref he, .int (nI ec), .int me])), (hm, .inr (1, [.int sc, .ref hn, .int (nI nk)])), (hn, .inl (cI, 16, .inl nd)), (hs, .inr (2, [.ref hw, .int (nI bl), .int dn, .int lf])), (hw, .inl (cI, 40, .inl M)), (he, .inl (cI, 3, .inl en))]) [0, 1, 2, 3, 4, 5] (by decide) rfl
        have hFc := va_free (wc := [(ht, .inr (0, [.ref hm, .ref hs, .ref hp, .int (nI cn), .int rn, .int (bI tr), .ref he, .int (nI ec), .int me])), (hm, .inr (1, [.int sc, .ref hn, .int (nI nk)])), (hn, .inl (cI, 16, .inl nd)), (hs, .inr (2, [.ref hw, .int (nI bl), .int dn, .int lf])), (hw, .inl (cI, 40, .inl M)), (he, .inl (cI, 3, .inl en))]) hD hS hA [0, 1, 2, 3, 4, 5] rfl
        refine va_calli (va_runV (As := [.int (nI 0)]) (rest := []) ⟨hx, hb, hml, hown, hts⟩ (c_TS_attempt l dC dI cI (ht := ht) (k := 0) (hm := hm) (hs := hs) (hp := hp) (cn := cn) (rn := rn) (tr := tr) (he := he) (ec := ec) (me := me) (sc := sc) (hn := hn) (nk := nk) (nd := nd) (hw := hw) (bl := bl) (dn := dn) (lf := lf) (M := M) (en := en) (hk := (by omega)) (hbl := (by omega)) (sz := s.heap.size)) ⟨callB_of 1 hts (gd kw_316) rfl rfl rfl (hts _ kw_35) (hts _ kw_313) (by decide +kernel) ⟨Nat.le_of_ble_eq_true rfl, Nat.le_of_ble_eq_true rfl⟩, (hts _ kw_315), (hts _ kw_12)⟩ ⟨fun a U g mk q => by obtain ⟨q0, q1, qP, qK, qD⟩ := q; exact ⟨q0, q1, qP, qK.call, qD⟩, va_recv hK hP (ci := 0) rfl (q0 := 0) rfl, fun U hU hW => ⟨rfl, by rw [hU], by rw [hU]; exact hPc, hKN.warm hW, hDc.weaken (fun _ _ _ _ => trivial)⟩⟩ rfl rfl hl.1 rfl (lv_room (Nat.le_of_ble_eq_true rfl)) d_TS_startConfirmed_48 ⟨Nat.zero_le _, Nat.zero_le _⟩) hS (fun q _ h => hFc q h) hFc (fun r u t H1 locs zt zvm zw zB zz zk hS => ?_)
        obtain ⟨en_34, ec_34, me_34⟩ := u
        obtain ⟨b_34, rfl, hu_34⟩ := zw
        obtain ⟨hP1, hD1⟩ := zB
        rw [zt] at hP1
        have hP1 : va_P (dC, dI) classes [(ht, .inr (0, [.ref hm, .ref hs, .ref hp, .int (nI cn), .int rn, .int (bI tr), .ref he, .int (nI ec_34), .int me_34])), (hm, .inr (1, [.int sc, .ref hn, .int (nI nk)])), (hn, .inl (cI, 16, .inl nd)), (hs, .inr (2, [.ref hw, .int (nI bl), .int dn, .int lf])), (hw, .inl (cI, 40, .inl M)), (he, .inl (cI, 3, .inl en_34))] H1 := hP1
        obtain ⟨hP, hD⟩ := va_join (wc := [(ht, .inr (0, [.ref hm, .ref hs, .ref hp, .int (nI cn), .int rn, .int (bI tr), .ref he, .int (nI ec), .int me])), (hm, .inr (1, [.int sc, .ref hn, .int (nI nk)])), (hn, .inl (cI, 16, .inl nd)), (hs, .inr (2, [.ref hw, .int (nI bl), .int dn, .int lf])), (hw, .inl (cI, 40, .inl M)), (he, .inl (cI, 3, .inl en))]) (wr := []) (w1 := [(ht, .inr (0, [.ref hm, .ref hs, .ref hp, .int (nI cn), .int rn, .int (bI tr), .ref he, .int (nI ec_34), .int me_34])), (hm, .inr (1, [.int sc, .ref hn, .int (nI nk)])), (hn, .inl (cI, 16, .inl nd)), (hs, .inr (2, [.ref hw, .int (nI bl), .int dn, .int lf])), (hw, .inl (cI, 40, .inl M)), (he, .inl (cI, 3, .inl en_34))]) hP hD [0, 1, 2, 3, 4, 5] [] rfl rfl (by decide) (by decide) zk hFc hP1 hD1
        generalize H1 = H at hP hS ⊢
        have hP : va_P (dC, dI) classes [(ht, .inr (0, [.ref hm, .ref hs, .ref hp, .int (nI cn), .int rn, .int (bI tr), .ref he, .int (nI ec_34), .int me_34])), (hm, .inr (1, [.int sc, .ref hn, .int (nI nk)])), (hn, .inl (cI, 16, .inl nd)), (hs, .inr (2, [.ref hw, .int (nI bl), .int dn, .int lf])), (hw, .inl (cI, 40, .inl M)), (he, .inl (cI, 3, .inl en_34))] H := hP.sub [0, 1, 2, 3, 4, 5] rfl
        have hD : va_D A [(ht, .inr (0, [.ref hm, .ref hs, .ref hp, .int (nI cn), .int rn, .int (bI tr), .ref he, .int (nI ec_34), .int me_34])), (hm, .inr (1, [.int sc, .ref hn, .int (nI nk)])), (hn, .inl (cI, 16, .inl nd)), (hs, .inr (2, [.ref hw, .int (nI bl), .int dn, .int lf])), (hw, .inl (cI, 40, .inl M)), (he, .inl (cI, 3, .inl en_34))] := hD.sub [0, 1, 2, 3, 4, 5] (by decide) rfl
        clear hPc hDc hFc hP1 hD1 zk zz zvm zt
        refine bz_eq (tgt := 58) hx hb d_TS_startConfirmed_51 (by decide) (fun h_35 => ?_) (fun h_35 => ?_)
        · subst h_35
          refine lv_iload_n hx hb d_TS_startConfirmed_58 rfl (lv_at hl 0 rfl) ?_
          refine lv_iconst (v := (-1)) hx hb d_TS_startConfirmed_59 (by decide) ?_
          refine lv_icmp_ne (tgt := 74) hx hb d_TS_startConfirmed_60 (by decide) (fun h_36 => ?_) (fun h_36 => ?_)
          · exact absurd h_36 (by decide)
          · refine lv_aload_n hx hb d_TS_startConfirmed_63 rfl (lv_at hl 2 rfl) ?_
            have hPc := hP.sub (ws' := [(ht, .inr (0, [.ref hm, .ref hs, .ref hp, .int (nI cn), .int rn, .int (bI tr), .ref he, .int (nI ec_34), .int me_34]))]) [0] rfl
            have hDc := hD.sub (ws' := [(ht, .inr (0, [.ref hm, .ref hs, .ref hp, .int (nI cn), .int rn, .int (bI tr), .ref he, .int (nI ec_34), .int me_34]))]) [0] (by decide) rfl
            have hFc := va_free (wc := [(ht, .inr (0, [.ref hm, .ref hs, .ref hp, .int (nI cn), .int rn, .int (bI tr), .ref he, .int (nI ec_34), .int me_34]))]) hD hS hA [0] rfl
            refine va_callv (va_runV (As := []) (rest := []) ⟨hx, hb, hml, hown, hts⟩ (c_TS_forgetStages l dC dI cI (ht := ht) (hm := hm) (hs := hs) (hp := hp) (cn := cn) (rn := rn) (tr := tr) (he := he) (ec := ec_34) (me := me_34)  (sz := H.size)) ⟨callB_of 0 hts (gd kw_301) rfl rfl rfl (hts _ kw_35) (hts _ kw_298) (by decide +kernel) ⟨Nat.le_of_ble_eq_true rfl, Nat.le_of_ble_eq_true rfl⟩, (hts _ kw_300), (hts _ kw_11)⟩ ⟨fun a U g mk q => by obtain ⟨q0, q1, qP, qK, qD⟩ := q; exact ⟨q0, q1, qP, qK.call, qD⟩, va_recv hK hP (ci := 0) rfl (q0 := 0) rfl, fun U hU hW => ⟨rfl, by rw [hU], by rw [hU]; exact hPc, hKN.warm hW, hDc.weaken (fun _ _ _ _ => trivial)⟩⟩ rfl rfl hl.1 rfl (lv_room (Nat.le_of_ble_eq_true rfl)) d_TS_startConfirmed_64 ⟨Nat.zero_le _, Nat.zero_le _⟩) hS (fun q _ h => hFc q h) hFc (fun u t H1 locs zt zvm zw zB zz zk hS => ?_)
            obtain ⟨ec_37, me_37⟩ := u
            have hu_37 := zw
            simp only [Prod.mk.injEq] at hu_37
            obtain ⟨rfl, rfl⟩ := hu_37
            obtain ⟨hP1, hD1⟩ := zB
            rw [zt] at hP1
            have hP1 : va_P (dC, dI) classes [(ht, .inr (0, [.ref hm, .ref hs, .ref hp, .int (nI cn), .int rn, .int (bI tr), .ref he, .int (nI 0), .int (nI 0)]))] H1 := hP1
            obtain ⟨hP, hD⟩ := va_join (wc := [(ht, .inr (0, [.ref hm, .ref hs, .ref hp, .int (nI cn), .int rn, .int (bI tr), .ref he, .int (nI ec_34), .int me_34]))]) (wr := [(hm, .inr (1, [.int sc, .ref hn, .int (nI nk)])), (hn, .inl (cI, 16, .inl nd)), (hs, .inr (2, [.ref hw, .int (nI bl), .int dn, .int lf])), (hw, .inl (cI, 40, .inl M)), (he, .inl (cI, 3, .inl en_34))]) (w1 := [(ht, .inr (0, [.ref hm, .ref hs, .ref hp, .int (nI cn), .int rn, .int (bI tr), .ref he, .int (nI 0), .int (nI 0)]))]) hP hD [0] [1, 2, 3, 4, 5] rfl rfl (by decide) (by decide) zk hFc hP1 hD1
            generalize H1 = H at hP hS ⊢
            have hP : va_P (dC, dI) classes [(ht, .inr (0, [.ref hm, .ref hs, .ref hp, .int (nI cn), .int rn, .int (bI tr), .ref he, .int (nI 0), .int (nI 0)])), (hm, .inr (1, [.int sc, .ref hn, .int (nI nk)])), (hn, .inl (cI, 16, .inl nd)), (hs, .inr (2, [.ref hw, .int (nI bl), .int dn, .int lf])), (hw, .inl (cI, 40, .inl M)), (he, .inl (cI, 3, .inl en_34))] H := hP.sub [5, 0, 1, 2, 3, 4] rfl
            have hD : va_D A [(ht, .inr (0, [.ref hm, .ref hs, .ref hp, .int (nI cn), .int rn, .int (bI tr), .ref he, .int (nI 0), .int (nI 0)])), (hm, .inr (1, [.int sc, .ref hn, .int (nI nk)])), (hn, .inl (cI, 16, .inl nd)), (hs, .inr (2, [.ref hw, .int (nI bl), .int dn, .int lf])), (hw, .inl (cI, 40, .inl M)), (he, .inl (cI, 3, .inl en_34))] := hD.sub [5, 0, 1, 2, 3, 4] (by decide) rfl
            clear hPc hDc hFc hP1 hD1 zk zz zvm zt
            refine lv_aload_n hx hb d_TS_startConfirmed_67 rfl (lv_at hl 2 rfl) ?_
            refine lv_iconst (v := (nI 2)) hx hb d_TS_startConfirmed_68 (by decide) ?_
            refine va_put (D := (dC, dI)) (ci := 0) (v := .int (nI 2)) (ty := .int) (C := R_TS) (T := F_TS) (N := 9) hx hb hts in_TS t_TS t_TS_ok n_TS hown hK hP hD hS 0 rfl rfl 4 (by decide) (hts _ kw_146) (fun _ h9 => h9) rfl (by decide +kernel) rfl rfl (Nat.le_of_ble_eq_true rfl) d_TS_startConfirmed_69 (fun H locs hP hD hS => ?_)
            have hP : va_P (dC, dI) classes [(ht, .inr (0, [.ref hm, .ref hs, .ref hp, .int (nI cn), .int (nI 2), .int (bI tr), .ref he, .int (nI 0), .int (nI 0)])), (hm, .inr (1, [.int sc, .ref hn, .int (nI nk)])), (hn, .inl (cI, 16, .inl nd)), (hs, .inr (2, [.ref hw, .int (nI bl), .int dn, .int lf])), (hw, .inl (cI, 40, .inl M)), (he, .inl (cI, 3, .inl en_34))] H := hP
            have hD : va_D A [(ht, .inr (0, [.ref hm, .ref hs, .ref hp, .int (nI cn), .int (nI 2), .int (bI tr), .ref he, .int (nI 0), .int (nI 0)])), (hm, .inr (1, [.int sc, .ref hn, .int (nI nk)])), (hn, .inl (cI, 16, .inl nd)), (hs, .inr (2, [.ref hw, .int (nI bl), .int dn, .int lf])), (hw, .inl (cI, 40, .inl M)), (he, .inl (cI, 3, .inl en_34))] := hD
            refine lv_iconst (v := (nI 2)) hx hb d_TS_startConfirmed_72 (by decide) ?_
            exact W.iret (v := (nI 2)) hx hb hr (fun t ht hW => ⟨⟨(nI 2), ((nI 2), tr, en_34, 0, (nI 0), bl, dn, lf), rfl, (by simp only [scC, t1, blw, hh0, h_30, h_31, hu_34, eq_self, reduceCtorEq, if_true, if_false, Nat.reduceSub]), by rw [ht]; exact hP, hD⟩, hS.F ht⟩) hS.2.2 d_TS_startConfirmed_73
        · subst h_35
          refine lv_iconst (v := (nI 1)) hx hb d_TS_startConfirmed_54 (by decide) ?_
          refine lv_iload_n hx hb d_TS_startConfirmed_55 rfl (lv_at hl 1 rfl) ?_
          refine lv_isub hx hb d_TS_startConfirmed_56 ?_
          refine tp (y := (nI 0)) (by decide) ?_
          refine lv_istore_n (lv' := [(2, .int (nI 0)), (1, .int (nI 1)), (0, .ref ht)]) hx hb d_TS_startConfirmed_57 rfl hl (by decide) rfl (fun ls hl => ?_)
          refine lv_iload_n hx hb d_TS_startConfirmed_58 rfl (lv_at hl 0 rfl) ?_
          refine lv_iconst (v := (-1)) hx hb d_TS_startConfirmed_59 (by decide) ?_
          refine lv_icmp_ne (tgt := 74) hx hb d_TS_startConfirmed_60 (by decide) (fun h_38 => ?_) (fun h_38 => ?_)
          · refine lv_aload_n hx hb d_TS_startConfirmed_74 rfl (lv_at hl 2 rfl) ?_
            refine va_get (D := (dC, dI)) (ci := 0) (v := .ref hs) (C := R_TS) (T := F_TS) (N := 9) hx hb hts in_TS hown hK hP 0 rfl rfl 1 (by decide) (hts _ kw_143) (fun _ h9 => h9) rfl d_TS_startConfirmed_75 ?_
            refine lv_aload_n hx hb d_TS_startConfirmed_78 rfl (lv_at hl 2 rfl) ?_
            refine va_get (D := (dC, dI)) (ci := 0) (v := .ref hs) (C := R_TS) (T := F_TS) (N := 9) hx hb hts in_TS hown hK hP 0 rfl rfl 1 (by decide) (hts _ kw_143) (fun _ h9 => h9) rfl d_TS_startConfirmed_79 ?_
            refine lv_iload_n hx hb d_TS_startConfirmed_82 rfl (lv_at hl 0 rfl) ?_
            refine pr_call (va_runV (As := [.int (nI 0)]) (rest := [.ref hs]) ⟨hx, hb, hml, hown, hts⟩ (c_St_versionIn l dC dI cI (hs := hs) (k := 0) (hw := hw) (bl := bl) (dn := dn) (lf := lf) (M := M) (hk := (by omega))) ⟨callB_of 1 hts (gd kw_320) rfl rfl rfl (hts _ kw_39) (hts _ kw_317) (by decide +kernel) ⟨Nat.le_of_ble_eq_true rfl, Nat.le_of_ble_eq_true rfl⟩, (hts _ kw_318), (hts _ kw_319)⟩ ⟨fun a U g mk q => by obtain ⟨q0, qP, qK⟩ := q; exact ⟨q0, qP, qK.call⟩, va_recv hK hP (ci := 2) rfl (q0 := 3) rfl, fun U hU hW => ⟨rfl, by rw [hU]; exact hP.sub [3, 4] rfl, hKN.warm hW⟩⟩ rfl rfl hl.1 rfl (lv_room (Nat.le_of_ble_eq_true rfl)) d_TS_startConfirmed_83 ⟨Nat.zero_le _, Nat.zero_le _⟩) ?_
            have hPc := hP.sub (ws' := [(hs, .inr (2, [.ref hw, .int (nI bl), .int dn, .int lf]))]) [3] rfl
            have hDc := hD.sub (ws' := [(hs, .inr (2, [.ref hw, .int (nI bl), .int dn, .int lf]))]) [3] (by decide) rfl
            have hFc := va_free (wc := [(hs, .inr (2, [.ref hw, .int (nI bl), .int dn, .int lf]))]) hD hS hA [3] rfl
            refine va_calli (va_runV (As := [.int (M (0 * 17))]) (rest := []) ⟨hx, hb, hml, hown, hts⟩ (c_St_blowUpTo l dC dI cI (hs := hs) (v := M (0 * 17)) (hw := hw) (bl := bl) (dn := dn) (lf := lf) (hbl := (by omega)) (sz := H.size)) ⟨callB_of 1 hts (gd kw_341) rfl rfl rfl (hts _ kw_39) (hts _ kw_338) (by decide +kernel) ⟨Nat.le_of_ble_eq_true rfl, Nat.le_of_ble_eq_true rfl⟩, (hts _ kw_339), (hts _ kw_340)⟩ ⟨fun a U g mk q => by obtain ⟨q0, q1, qP, qK, qD⟩ := q; exact ⟨q0, q1, qP, qK.call, qD⟩, va_recv hK hP (ci := 2) rfl (q0 := 3) rfl, fun U hU hW => ⟨rfl, by rw [hU], by rw [hU]; exact hPc, hKN.warm hW, hDc.weaken (fun _ _ _ _ => trivial)⟩⟩ rfl rfl hl.1 rfl (lv_room (Nat.le_of_ble_eq_true rfl)) d_TS_startConfirmed_86 ⟨Nat.zero_le _, Nat.zero_le _⟩) hS (fun q _ h => hFc q h) hFc (fun r u t H1 locs zt zvm zw zB zz zk hS => ?_)
            obtain ⟨bl_39, dn_39, lf_39⟩ := u
            obtain ⟨b_39, rfl, hu_39⟩ := zw
            obtain ⟨hP1, hD1⟩ := zB
            rw [zt] at hP1
            have hP1 : va_P (dC, dI) classes [(hs, .inr (2, [.ref hw, .int (nI bl_39), .int dn_39, .int lf_39]))] H1 := hP1
            obtain ⟨hP, hD⟩ := va_join (wc := [(hs, .inr (2, [.ref hw, .int (nI bl), .int dn, .int lf]))]) (wr := [(ht, .inr (0, [.ref hm, .ref hs, .ref hp, .int (nI cn), .int rn, .int (bI tr), .ref he, .int (nI ec_34), .int me_34])), (hm, .inr (1, [.int sc, .ref hn, .int (nI nk)])), (hn, .inl (cI, 16, .inl nd)), (hw, .inl (cI, 40, .inl M)), (he, .inl (cI, 3, .inl en_34))]) (w1 := [(hs, .inr (2, [.ref hw, .int (nI bl_39), .int dn_39, .int lf_39]))]) hP hD [3] [0, 1, 2, 4, 5] rfl rfl (by decide) (by decide) zk hFc hP1 hD1
            generalize H1 = H at hP hS ⊢
            have hP : va_P (dC, dI) classes [(ht, .inr (0, [.ref hm, .ref hs, .ref hp, .int (nI cn), .int rn, .int (bI tr), .ref he, .int (nI ec_34), .int me_34])), (hm, .inr (1, [.int sc, .ref hn, .int (nI nk)])), (hn, .inl (cI, 16, .inl nd)), (hs, .inr (2, [.ref hw, .int (nI bl_39), .int dn_39, .int lf_39])), (hw, .inl (cI, 40, .inl M)), (he, .inl (cI, 3, .inl en_34))] H := hP.sub [0, 1, 2, 5, 3, 4] rfl
            have hD : va_D A [(ht, .inr (0, [.ref hm, .ref hs, .ref hp, .int (nI cn), .int rn, .int (bI tr), .ref he, .int (nI ec_34), .int me_34])), (hm, .inr (1, [.int sc, .ref hn, .int (nI nk)])), (hn, .inl (cI, 16, .inl nd)), (hs, .inr (2, [.ref hw, .int (nI bl_39), .int dn_39, .int lf_39])), (hw, .inl (cI, 40, .inl M)), (he, .inl (cI, 3, .inl en_34))] := hD.sub [0, 1, 2, 5, 3, 4] (by decide) rfl
            clear hPc hDc hFc hP1 hD1 zk zz zvm zt
            refine bz_ne (tgt := 97) hx hb d_TS_startConfirmed_89 (by decide) (fun h_40 => ?_) (fun h_40 => ?_)
            · subst h_40
              refine lv_aload_n hx hb d_TS_startConfirmed_97 rfl (lv_at hl 2 rfl) ?_
              refine lv_iload_n hx hb d_TS_startConfirmed_98 rfl (lv_at hl 0 rfl) ?_
              refine va_put (D := (dC, dI)) (ci := 0) (v := .int (nI 0)) (ty := .int) (C := R_TS) (T := F_TS) (N := 9) hx hb hts in_TS t_TS t_TS_ok n_TS hown hK hP hD hS 0 rfl rfl 4 (by decide) (hts _ kw_146) (fun _ h9 => h9) rfl (by decide +kernel) rfl rfl (Nat.le_of_ble_eq_true rfl) d_TS_startConfirmed_99 (fun H locs hP hD hS => ?_)
              have hP : va_P (dC, dI) classes [(ht, .inr (0, [.ref hm, .ref hs, .ref hp, .int (nI cn), .int (nI 0), .int (bI tr), .ref he, .int (nI ec_34), .int me_34])), (hm, .inr (1, [.int sc, .ref hn, .int (nI nk)])), (hn, .inl (cI, 16, .inl nd)), (hs, .inr (2, [.ref hw, .int (nI bl_39), .int dn_39, .int lf_39])), (hw, .inl (cI, 40, .inl M)), (he, .inl (cI, 3, .inl en_34))] H := hP
              have hD : va_D A [(ht, .inr (0, [.ref hm, .ref hs, .ref hp, .int (nI cn), .int (nI 0), .int (bI tr), .ref he, .int (nI ec_34), .int me_34])), (hm, .inr (1, [.int sc, .ref hn, .int (nI nk)])), (hn, .inl (cI, 16, .inl nd)), (hs, .inr (2, [.ref hw, .int (nI bl_39), .int dn_39, .int lf_39])), (hw, .inl (cI, 40, .inl M)), (he, .inl (cI, 3, .inl en_34))] := hD
              refine lv_iload_n hx hb d_TS_startConfirmed_102 rfl (lv_at hl 0 rfl) ?_
              exact W.iret (v := (nI 0)) hx hb hr (fun t ht hW => ⟨⟨(nI 0), ((nI 0), tr, en_34, ec_34, me_34, bl_39, dn_39, lf_39), rfl, (by simp only [scC, t1, blw, hh0, h_30, h_31, hu_34, hu_39, eq_self, reduceCtorEq, if_true, if_false, Nat.reduceSub]), by rw [ht]; exact hP, hD⟩, hS.F ht⟩) hS.2.2 d_TS_startConfirmed_103
            · subst h_40
              refine lv_aload_n hx hb d_TS_startConfirmed_92 rfl (lv_at hl 2 rfl) ?_
              have hPc := hP.sub (ws' := [(ht, .inr (0, [.ref hm, .ref hs, .ref hp, .int (nI cn), .int rn, .int (bI tr), .ref he, .int (nI ec_34), .int me_34]))]) [0] rfl
              have hDc := hD.sub (ws' := [(ht, .inr (0, [.ref hm, .ref hs, .ref hp, .int (nI cn), .int rn, .int (bI tr), .ref he, .int (nI ec_34), .int me_34]))]) [0] (by decide) rfl
              have hFc := va_free (wc := [(ht, .inr (0, [.ref hm, .ref hs, .ref hp, .int (nI cn), .int rn, .int (bI tr), .ref he, .int (nI ec_34), .int me_34]))]) hD hS hA [0] rfl
              refine va_calli (va_runV (As := []) (rest := []) ⟨hx, hb, hml, hown, hts⟩ (c_TS_powerLost l dC dI cI (ht := ht) (hm := hm) (hs := hs) (hp := hp) (cn := cn) (rn := rn) (tr := tr) (he := he) (ec := ec_34) (me := me_34)  (sz := H.size)) ⟨callB_of 0 hts (gd kw_293) rfl rfl rfl (hts _ kw_35) (hts _ kw_290) (by decide +kernel) ⟨Nat.le_of_ble_eq_true rfl, Nat.le_of_ble_eq_true rfl⟩, (hts _ kw_292), (hts _ kw_9)⟩ ⟨fun a U g mk q => by obtain ⟨q0, q1, qP, qK, qD⟩ := q; exact ⟨q0, q1, qP, qK.call, qD⟩, va_recv hK hP (ci := 0) rfl (q0 := 0) rfl, fun U hU hW => ⟨rfl, by rw [hU], by rw [hU]; exact hPc, hKN.warm hW, hDc.weaken (fun _ _ _ _ => trivial)⟩⟩ rfl rfl hl.1 rfl (lv_room (Nat.le_of_ble_eq_true rfl)) d_TS_startConfirmed_93 ⟨Nat.zero_le _, Nat.zero_le _⟩) hS (fun q _ h => hFc q h) hFc (fun r u t H1 locs zt zvm zw zB zz zk hS => ?_)
              obtain ⟨rn_41, tr_41, ec_41, me_41⟩ := u
              obtain ⟨r_41, rfl⟩ : ∃ z, z = r := ⟨_, rfl⟩
              have hu_41 := zw
              simp only [Prod.mk.injEq] at hu_41
              obtain ⟨rfl, rfl, rfl, rfl, rfl⟩ := hu_41
              obtain ⟨hP1, hD1⟩ := zB
              rw [zt] at hP1
              have hP1 : va_P (dC, dI) classes [(ht, .inr (0, [.ref hm, .ref hs, .ref hp, .int (nI cn), .int (-1), .int (bI false), .ref he, .int (nI 0), .int (nI 0)]))] H1 := hP1
              obtain ⟨hP, hD⟩ := va_join (wc := [(ht, .inr (0, [.ref hm, .ref hs, .ref hp, .int (nI cn), .int rn, .int (bI tr), .ref he, .int (nI ec_34), .int me_34]))]) (wr := [(hm, .inr (1, [.int sc, .ref hn, .int (nI nk)])), (hn, .inl (cI, 16, .inl nd)), (hs, .inr (2, [.ref hw, .int (nI bl_39), .int dn_39, .int lf_39])), (hw, .inl (cI, 40, .inl M)), (he, .inl (cI, 3, .inl en_34))]) (w1 := [(ht, .inr (0, [.ref hm, .ref hs, .ref hp, .int (nI cn), .int (-1), .int (bI false), .ref he, .int (nI 0), .int (nI 0)]))]) hP hD [0] [1, 2, 3, 4, 5] rfl rfl (by decide) (by decide) zk hFc hP1 hD1
              generalize H1 = H at hP hS ⊢
              have hP : va_P (dC, dI) classes [(ht, .inr (0, [.ref hm, .ref hs, .ref hp, .int (nI cn), .int (-1), .int (bI false), .ref he, .int (nI 0), .int (nI 0)])), (hm, .inr (1, [.int sc, .ref hn, .int (nI nk)])), (hn, .inl (cI, 16, .inl nd)), (hs, .inr (2, [.ref hw, .int (nI bl_39), .int dn_39, .int lf_39])), (hw, .inl (cI, 40, .inl M)), (he, .inl (cI, 3, .inl en_34))] H := hP.sub [5, 0, 1, 2, 3, 4] rfl
              have hD : va_D A [(ht, .inr (0, [.ref hm, .ref hs, .ref hp, .int (nI cn), .int (-1), .int (bI false), .ref he, .int (nI 0), .int (nI 0)])), (hm, .inr (1, [.int sc, .ref hn, .int (nI nk)])), (hn, .inl (cI, 16, .inl nd)), (hs, .inr (2, [.ref hw, .int (nI bl_39), .int dn_39, .int lf_39])), (hw, .inl (cI, 40, .inl M)), (he, .inl (cI, 3, .inl en_34))] := hD.sub [5, 0, 1, 2, 3, 4] (by decide) rfl
              clear hPc hDc hFc hP1 hD1 zk zz zvm zt
              exact W.iret (v := (-1)) hx hb hr (fun t ht hW => ⟨⟨(-1), ((-1), false, en_34, 0, (nI 0), bl_39, dn_39, lf_39), rfl, (by simp only [scC, t1, blw, hh0, h_30, h_31, hu_34, hu_39, eq_self, reduceCtorEq, if_true, if_false, Nat.reduceSub]), by rw [ht]; exact hP, hD⟩, hS.F ht⟩) hS.2.2 d_TS_startConfirmed_96
          · exact absurd h_38 (by decide)
    · refine lv_aload_n hx hb d_TS_startConfirmed_21 rfl (lv_at hl 2 rfl) ?_
      refine lv_iload_n hx hb d_TS_startConfirmed_22 rfl (lv_at hl 1 rfl) ?_
      have hPc := hP.sub (ws' := [(ht, .inr (0, [.ref hm, .ref hs, .ref hp, .int (nI cn), .int rn, .int (bI tr), .ref he, .int (nI ec), .int me])), (hm, .inr (1, [.int sc, .ref hn, .int (nI nk)])), (hn, .inl (cI, 16, .inl nd)), (hs, .inr (2, [.ref hw, .int (nI bl), .int dn, .int lf])), (hw, .inl (cI, 40, .inl M)), (he, .inl (cI, 3, .inl en))]) [0, 1, 2, 3, 4, 5] rfl
      have hDc := hD.sub (ws' := [(ht, .inr (0, [.ref hm, .ref hs, .ref hp, .int (nI cn), .int rn, .int (bI tr), .ref he, .int (nI ec), .int me])), (hm, .inr (1, [.int sc, .ref hn, .int (nI nk)])), (hn, .inl (cI, 16, .inl nd)), (hs, .inr (2, [.ref hw, .int (nI bl), .int dn, .int lf])), (hw, .inl (cI, 40, .inl M)), (he, .inl (cI, 3, .inl en))]) [0, 1, 2, 3, 4, 5] (by decide) rfl
      have hFc := va_free (wc := [(ht, .inr (0, [.ref hm, .ref hs, .ref hp, .int (nI cn), .int rn, .int (bI tr), .ref he, .int (nI ec), .int me])), (hm, .inr (1, [.int sc, .ref hn, .int (nI nk)])), (hn, .inl (cI, 16, .inl nd)), (hs, .inr (2, [.ref hw, .int (nI bl), .int dn, .int lf])), (hw, .inl (cI, 40, .inl M)), (he, .inl (cI, 3, .inl en))]) hD hS hA [0, 1, 2, 3, 4, 5] rfl
      refine va_calli (va_runV (As := [.int (nI 1)]) (rest := []) ⟨hx, hb, hml, hown, hts⟩ (c_TS_attempt l dC dI cI (ht := ht) (k := 1) (hm := hm) (hs := hs) (hp := hp) (cn := cn) (rn := rn) (tr := tr) (he := he) (ec := ec) (me := me) (sc := sc) (hn := hn) (nk := nk) (nd := nd) (hw := hw) (bl := bl) (dn := dn) (lf := lf) (M := M) (en := en) (hk := (by omega)) (hbl := (by omega)) (sz := s.heap.size)) ⟨callB_of 1 hts (gd kw_316) rfl rfl rfl (hts _ kw_35) (hts _ kw_313) (by decide +kernel) ⟨Nat.le_of_ble_eq_true rfl, Nat.le_of_ble_eq_true rfl⟩, (hts _ kw_315), (hts _ kw_12)⟩ ⟨fun a U g mk q => by obtain ⟨q0, q1, qP, qK, qD⟩ := q; exact ⟨q0, q1, qP, qK.call, qD⟩, va_recv hK hP (ci := 0) rfl (q0 := 0) rfl, fun U hU hW => ⟨rfl, by rw [hU], by rw [hU]; exact hPc, hKN.warm hW, hDc.weaken (fun _ _ _ _ => trivial)⟩⟩ rfl rfl hl.1 rfl (lv_room (Nat.le_of_ble_eq_true rfl)) d_TS_startConfirmed_23 ⟨Nat.zero_le _, Nat.zero_le _⟩) hS (fun q _ h => hFc q h) hFc (fun r u t H1 locs zt zvm zw zB zz zk hS => ?_)
      obtain ⟨en_42, ec_42, me_42⟩ := u
      obtain ⟨b_42, rfl, hu_42⟩ := zw
      obtain ⟨hP1, hD1⟩ := zB
      rw [zt] at hP1
      have hP1 : va_P (dC, dI) classes [(ht, .inr (0, [.ref hm, .ref hs, .ref hp, .int (nI cn), .int rn, .int (bI tr), .ref he, .int (nI ec_42), .int me_42])), (hm, .inr (1, [.int sc, .ref hn, .int (nI nk)])), (hn, .inl (cI, 16, .inl nd)), (hs, .inr (2, [.ref hw, .int (nI bl), .int dn, .int lf])), (hw, .inl (cI, 40, .inl M)), (he, .inl (cI, 3, .inl en_42))] H1 := hP1
      obtain ⟨hP, hD⟩ := va_join (wc := [(ht, .inr (0, [.ref hm, .ref hs, .ref hp, .int (nI cn), .int rn, .int (bI tr), .ref he, .int (nI ec), .int me])), (hm, .inr (1, [.int sc, .ref hn, .int (nI nk)])), (hn, .inl (cI, 16, .inl nd)), (hs, .inr (2, [.ref hw, .int (nI bl), .int dn, .int lf])), (hw, .inl (cI, 40, .inl M)), (he, .inl (cI, 3, .inl en))]) (wr := []) (w1 := [(ht, .inr (0, [.ref hm, .ref hs, .ref hp, .int (nI cn), .int rn, .int (bI tr), .ref he, .int (nI ec_42), .int me_42])), (hm, .inr (1, [.int sc, .ref hn, .int (nI nk)])), (hn, .inl (cI, 16, .inl nd)), (hs, .inr (2, [.ref hw, .int (nI bl), .int dn, .int lf])), (hw, .inl (cI, 40, .inl M)), (he, .inl (cI, 3, .inl en_42))]) hP hD [0, 1, 2, 3, 4, 5] [] rfl rfl (by decide) (by decide) zk hFc hP1 hD1
      generalize H1 = H at hP hS ⊢
      have hP : va_P (dC, dI) classes [(ht, .inr (0, [.ref hm, .ref hs, .ref hp, .int (nI cn), .int rn, .int (bI tr), .ref he, .int (nI ec_42), .int me_42])), (hm, .inr (1, [.int sc, .ref hn, .int (nI nk)])), (hn, .inl (cI, 16, .inl nd)), (hs, .inr (2, [.ref hw, .int (nI bl), .int dn, .int lf])), (hw, .inl (cI, 40, .inl M)), (he, .inl (cI, 3, .inl en_42))] H := hP.sub [0, 1, 2, 3, 4, 5] rfl
      have hD : va_D A [(ht, .inr (0, [.ref hm, .ref hs, .ref hp, .int (nI cn), .int rn, .int (bI tr), .ref he, .int (nI ec_42), .int me_42])), (hm, .inr (1, [.int sc, .ref hn, .int (nI nk)])), (hn, .inl (cI, 16, .inl nd)), (hs, .inr (2, [.ref hw, .int (nI bl), .int dn, .int lf])), (hw, .inl (cI, 40, .inl M)), (he, .inl (cI, 3, .inl en_42))] := hD.sub [0, 1, 2, 3, 4, 5] (by decide) rfl
      clear hPc hDc hFc hP1 hD1 zk zz zvm zt
      refine bz_eq (tgt := 34) hx hb d_TS_startConfirmed_26 (by decide) (fun h_43 => ?_) (fun h_43 => ?_)
      · subst h_43
        refine lv_aload_n hx hb d_TS_startConfirmed_34 rfl (lv_at hl 2 rfl) ?_
        refine lv_iconst (v := (nI 1)) hx hb d_TS_startConfirmed_35 (by decide) ?_
        refine lv_iload_n hx hb d_TS_startConfirmed_36 rfl (lv_at hl 1 rfl) ?_
        refine lv_isub hx hb d_TS_startConfirmed_37 ?_
        refine tp (y := (nI 0)) (by decide) ?_
        refine pr_call (va_runV (As := [.int (nI 0)]) (rest := []) ⟨hx, hb, hml, hown, hts⟩ (c_TS_isConfirmed l dC dI cI (ht := ht) (k := 0) (hm := hm) (hs := hs) (hp := hp) (cn := cn) (rn := rn) (tr := tr) (he := he) (ec := ec_42) (me := me_42) (hw := hw) (bl := bl) (dn := dn) (lf := lf) (M := M) (hk := (by omega))) ⟨callB_of 1 hts (gd kw_336) rfl rfl rfl (hts _ kw_35) (hts _ kw_333) (by decide +kernel) ⟨Nat.le_of_ble_eq_true rfl, Nat.le_of_ble_eq_true rfl⟩, (hts _ kw_335), (hts _ kw_15)⟩ ⟨fun a U g mk q => by obtain ⟨q0, qP, qK⟩ := q; exact ⟨q0, qP, qK.call⟩, va_recv hK hP (ci := 0) rfl (q0 := 0) rfl, fun U hU hW => ⟨rfl, by rw [hU]; exact hP.sub [0, 3, 4] rfl, hKN.warm hW⟩⟩ rfl rfl hl.1 rfl (lv_room (Nat.le_of_ble_eq_true rfl)) d_TS_startConfirmed_38 ⟨Nat.zero_le _, Nat.zero_le _⟩) ?_
        refine bz_eq (tgt := 58) hx hb d_TS_startConfirmed_41 (by decide) (fun h_44 => ?_) (fun h_44 => ?_)
        · refine lv_iload_n hx hb d_TS_startConfirmed_58 rfl (lv_at hl 0 rfl) ?_
          refine lv_iconst (v := (-1)) hx hb d_TS_startConfirmed_59 (by decide) ?_
          refine lv_icmp_ne (tgt := 74) hx hb d_TS_startConfirmed_60 (by decide) (fun h_45 => ?_) (fun h_45 => ?_)
          · exact absurd h_45 (by decide)
          · refine lv_aload_n hx hb d_TS_startConfirmed_63 rfl (lv_at hl 2 rfl) ?_
            have hPc := hP.sub (ws' := [(ht, .inr (0, [.ref hm, .ref hs, .ref hp, .int (nI cn), .int rn, .int (bI tr), .ref he, .int (nI ec_42), .int me_42]))]) [0] rfl
            have hDc := hD.sub (ws' := [(ht, .inr (0, [.ref hm, .ref hs, .ref hp, .int (nI cn), .int rn, .int (bI tr), .ref he, .int (nI ec_42), .int me_42]))]) [0] (by decide) rfl
            have hFc := va_free (wc := [(ht, .inr (0, [.ref hm, .ref hs, .ref hp, .int (nI cn), .int rn, .int (bI tr), .ref he, .int (nI ec_42), .int me_42]))]) hD hS hA [0] rfl
            refine va_callv (va_runV (As := []) (rest := []) ⟨hx, hb, hml, hown, hts⟩ (c_TS_forgetStages l dC dI cI (ht := ht) (hm := hm) (hs := hs) (hp := hp) (cn := cn) (rn := rn) (tr := tr) (he := he) (ec := ec_42) (me := me_42)  (sz := H.size)) ⟨callB_of 0 hts (gd kw_301) rfl rfl rfl (hts _ kw_35) (hts _ kw_298) (by decide +kernel) ⟨Nat.le_of_ble_eq_true rfl, Nat.le_of_ble_eq_true rfl⟩, (hts _ kw_300), (hts _ kw_11)⟩ ⟨fun a U g mk q => by obtain ⟨q0, q1, qP, qK, qD⟩ := q; exact ⟨q0, q1, qP, qK.call, qD⟩, va_recv hK hP (ci := 0) rfl (q0 := 0) rfl, fun U hU hW => ⟨rfl, by rw [hU], by rw [hU]; exact hPc, hKN.warm hW, hDc.weaken (fun _ _ _ _ => trivial)⟩⟩ rfl rfl hl.1 rfl (lv_room (Nat.le_of_ble_eq_true rfl)) d_TS_startConfirmed_64 ⟨Nat.zero_le _, Nat.zero_le _⟩) hS (fun q _ h => hFc q h) hFc (fun u t H1 locs zt zvm zw zB zz zk hS => ?_)
            obtain ⟨ec_46, me_46⟩ := u
            have hu_46 := zw
            simp only [Prod.mk.injEq] at hu_46
            obtain ⟨rfl, rfl⟩ := hu_46
            obtain ⟨hP1, hD1⟩ := zB
            rw [zt] at hP1
            have hP1 : va_P (dC, dI) classes [(ht, .inr (0, [.ref hm, .ref hs, .ref hp, .int (nI cn), .int rn, .int (bI tr), .ref he, .int (nI 0), .int (nI 0)]))] H1 := hP1
            obtain ⟨hP, hD⟩ := va_join (wc := [(ht, .inr (0, [.ref hm, .ref hs, .ref hp, .int (nI cn), .int rn, .int (bI tr), .ref he, .int (nI ec_42), .int me_42]))]) (wr := [(hm, .inr (1, [.int sc, .ref hn, .int (nI nk)])), (hn, .inl (cI, 16, .inl nd)), (hs, .inr (2, [.ref hw, .int (nI bl), .int dn, .int lf])), (hw, .inl (cI, 40, .inl M)), (he, .inl (cI, 3, .inl en_42))]) (w1 := [(ht, .inr (0, [.ref hm, .ref hs, .ref hp, .int (nI cn), .int rn, .int (bI tr), .ref he, .int (nI 0), .int (nI 0)]))]) hP hD [0] [1, 2, 3, 4, 5] rfl rfl (by decide) (by decide) zk hFc hP1 hD1
            generalize H1 = H at hP hS ⊢
            have hP : va_P (dC, dI) classes [(ht, .inr (0, [.ref hm, .ref hs, .ref hp, .int (nI cn), .int rn, .int (bI tr), .ref he, .int (nI 0), .int (nI 0)])), (hm, .inr (1, [.int sc, .ref hn, .int (nI nk)])), (hn, .inl (cI, 16, .inl nd)), (hs, .inr (2, [.ref hw, .int (nI bl), .int dn, .int lf])), (hw, .inl (cI, 40, .inl M)), (he, .inl (cI, 3, .inl en_42))] H := hP.sub [5, 0, 1, 2, 3, 4] rfl
            have hD : va_D A [(ht, .inr (0, [.ref hm, .ref hs, .ref hp, .int (nI cn), .int rn, .int (bI tr), .ref he, .int (nI 0), .int (nI 0)])), (hm, .inr (1, [.int sc, .ref hn, .int (nI nk)])), (hn, .inl (cI, 16, .inl nd)), (hs, .inr (2, [.ref hw, .int (nI bl), .int dn, .int lf])), (hw, .inl (cI, 40, .inl M)), (he, .inl (cI, 3, .inl en_42))] := hD.sub [5, 0, 1, 2, 3, 4] (by decide) rfl
            clear hPc hDc hFc hP1 hD1 zk zz zvm zt
            refine lv_aload_n hx hb d_TS_startConfirmed_67 rfl (lv_at hl 2 rfl) ?_
            refine lv_iconst (v := (nI 2)) hx hb d_TS_startConfirmed_68 (by decide) ?_
            refine va_put (D := (dC, dI)) (ci := 0) (v := .int (nI 2)) (ty := .int) (C := R_TS) (T := F_TS) (N := 9) hx hb hts in_TS t_TS t_TS_ok n_TS hown hK hP hD hS 0 rfl rfl 4 (by decide) (hts _ kw_146) (fun _ h9 => h9) rfl (by decide +kernel) rfl rfl (Nat.le_of_ble_eq_true rfl) d_TS_startConfirmed_69 (fun H locs hP hD hS => ?_)
            have hP : va_P (dC, dI) classes [(ht, .inr (0, [.ref hm, .ref hs, .ref hp, .int (nI cn), .int (nI 2), .int (bI tr), .ref he, .int (nI 0), .int (nI 0)])), (hm, .inr (1, [.int sc, .ref hn, .int (nI nk)])), (hn, .inl (cI, 16, .inl nd)), (hs, .inr (2, [.ref hw, .int (nI bl), .int dn, .int lf])), (hw, .inl (cI, 40, .inl M)), (he, .inl (cI, 3, .inl en_42))] H := hP
            have hD : va_D A [(ht, .inr (0, [.ref hm, .ref hs, .ref hp, .int (nI cn), .int (nI 2), .int (bI tr), .ref he, .int (nI 0), .int (nI 0)])), (hm, .inr (1, [.int sc, .ref hn, .int (nI nk)])), (hn, .inl (cI, 16, .inl nd)), (hs, .inr (2, [.ref hw, .int (nI bl), .int dn, .int lf])), (hw, .inl (cI, 40, .inl M)), (he, .inl (cI, 3, .inl en_42))] := hD
            refine lv_iconst (v := (nI 2)) hx hb d_TS_startConfirmed_72 (by decide) ?_
            exact W.iret (v := (nI 2)) hx hb hr (fun t ht hW => ⟨⟨(nI 2), ((nI 2), tr, en_42, 0, (nI 0), bl, dn, lf), rfl, (by simp only [scC, t1, blw, hh0, h_30, hu_42, h_44, eq_self, reduceCtorEq, if_true, if_false, Nat.reduceSub]), by rw [ht]; exact hP, hD⟩, hS.F ht⟩) hS.2.2 d_TS_startConfirmed_73
        · refine lv_aload_n hx hb d_TS_startConfirmed_44 rfl (lv_at hl 2 rfl) ?_
          refine lv_iconst (v := (nI 1)) hx hb d_TS_startConfirmed_45 (by decide) ?_
          refine lv_iload_n hx hb d_TS_startConfirmed_46 rfl (lv_at hl 1 rfl) ?_
          refine lv_isub hx hb d_TS_startConfirmed_47 ?_
          refine tp (y := (nI 0)) (by decide) ?_
          have hPc := hP.sub (ws' := [(ht, .inr (0, [.ref hm, .ref hs, .ref hp, .int (nI cn), .int rn, .int (bI tr), .ref he, .int (nI ec_42), .int me_42])), (hm, .inr (1, [.int sc, .ref hn, .int (nI nk)])), (hn, .inl (cI, 16, .inl nd)), (hs, .inr (2, [.ref hw, .int (nI bl), .int dn, .int lf])), (hw, .inl (cI, 40, .inl M)), (he, .inl (cI, 3, .inl en_42))]) [0, 1, 2, 3, 4, 5] rfl
          have hDc := hD.sub (ws' := [(ht, .inr (0, [.ref hm, .ref hs, .ref hp, .int (nI cn), .int rn, .int (bI tr), .ref he, .int (nI ec_42), .int me_42])), (hm, .inr (1, [.int sc, .ref hn, .int (nI nk)])), (hn, .inl (cI, 16, .inl nd)), (hs, .inr (2, [.ref hw, .int (nI bl), .int dn, .int lf])), (hw, .inl (cI, 40, .inl M)), (he, .inl (cI, 3, .inl en_42))]) [0, 1, 2, 3, 4, 5] (by decide) rfl
          have hFc := va_free (wc := [(ht, .inr (0, [.ref hm, .ref hs, .ref hp, .int (nI cn), .int rn, .int (bI tr), .ref he, .int (nI ec_42), .int me_42])), (hm, .inr (1, [.int sc, .ref hn, .int (nI nk)])), (hn, .inl (cI, 16, .inl nd)), (hs, .inr (2, [.ref hw, .int (nI bl), .int dn, .int lf])), (hw, .inl (cI, 40, .inl M)), (he, .inl (cI, 3, .inl en_42))]) hD hS hA [0, 1, 2, 3, 4, 5] rfl
          refine va_calli (va_runV (As := [.int (nI 0)]) (rest := []) ⟨hx, hb, hml, hown, hts⟩ (c_TS_attempt l dC dI cI (ht := ht) (k := 0) (hm := hm) (hs := hs) (hp := hp) (cn := cn) (rn := rn) (tr := tr) (he := he) (ec := ec_42) (me := me_42) (sc := sc) (hn := hn) (nk := nk) (nd := nd) (hw := hw) (bl := bl) (dn := dn) (lf := lf) (M := M) (en := en_42) (hk := (by omega)) (hbl := (by omega)) (sz := H.size)) ⟨callB_of 1 hts (gd kw_316) rfl rfl rfl (hts _ kw_35) (hts _ kw_313) (by decide +kernel) ⟨Nat.le_of_ble_eq_true rfl, Nat.le_of_ble_eq_true rfl⟩, (hts _ kw_315), (hts _ kw_12)⟩ ⟨fun a U g mk q => by obtain ⟨q0, q1, qP, qK, qD⟩ := q; exact ⟨q0, q1, qP, qK.call, qD⟩, va_recv hK hP (ci := 0) rfl (q0 := 0) rfl, fun U hU hW => ⟨rfl, by rw [hU], by rw [hU]; exact hPc, hKN.warm hW, hDc.weaken (fun _ _ _ _ => trivial)⟩⟩ rfl rfl hl.1 rfl (lv_room (Nat.le_of_ble_eq_true rfl)) d_TS_startConfirmed_48 ⟨Nat.zero_le _, Nat.zero_le _⟩) hS (fun q _ h => hFc q h) hFc (fun r u t H1 locs zt zvm zw zB zz zk hS => ?_)
          obtain ⟨en_47, ec_47, me_47⟩ := u
          obtain ⟨b_47, rfl, hu_47⟩ := zw
          obtain ⟨hP1, hD1⟩ := zB
          rw [zt] at hP1
          have hP1 : va_P (dC, dI) classes [(ht, .inr (0, [.ref hm, .ref hs, .ref hp, .int (nI cn), .int rn, .int (bI tr), .ref he, .int (nI ec_47), .int me_47])), (hm, .inr (1, [.int sc, .ref hn, .int (nI nk)])), (hn, .inl (cI, 16, .inl nd)), (hs, .inr (2, [.ref hw, .int (nI bl), .int dn, .int lf])), (hw, .inl (cI, 40, .inl M)), (he, .inl (cI, 3, .inl en_47))] H1 := hP1
          obtain ⟨hP, hD⟩ := va_join (wc := [(ht, .inr (0, [.ref hm, .ref hs, .ref hp, .int (nI cn), .int rn, .int (bI tr), .ref he, .int (nI ec_42), .int me_42])), (hm, .inr (1, [.int sc, .ref hn, .int (nI nk)])), (hn, .inl (cI, 16, .inl nd)), (hs, .inr (2, [.ref hw, .int (nI bl), .int dn, .int lf])), (hw, .inl (cI, 40, .inl M)), (he, .inl (cI, 3, .inl en_42))]) (wr := []) (w1 := [(ht, .inr (0, [.ref hm, .ref hs, .ref hp, .int (nI cn), .int rn, .int (bI tr), .ref he, .int (nI ec_47), .int me_47])), (hm, .inr (1, [.int sc, .ref hn, .int (nI nk)])), (hn, .inl (cI, 16, .inl nd)), (hs, .inr (2, [.ref hw, .int (nI bl), .int dn, .int lf])), (hw, .inl (cI, 40, .inl M)), (he, .inl (cI, 3, .inl en_47))]) hP hD [0, 1, 2, 3, 4, 5] [] rfl rfl (by decide) (by decide) zk hFc hP1 hD1
          generalize H1 = H at hP hS ⊢
          have hP : va_P (dC, dI) classes [(ht, .inr (0, [.ref hm, .ref hs, .ref hp, .int (nI cn), .int rn, .int (bI tr), .ref he, .int (nI ec_47), .int me_47])), (hm, .inr (1, [.int sc, .ref hn, .int (nI nk)])), (hn, .inl (cI, 16, .inl nd)), (hs, .inr (2, [.ref hw, .int (nI bl), .int dn, .int lf])), (hw, .inl (cI, 40, .inl M)), (he, .inl (cI, 3, .inl en_47))] H := hP.sub [0, 1, 2, 3, 4, 5] rfl
          have hD : va_D A [(ht, .inr (0, [.ref hm, .ref hs, .ref hp, .int (nI cn), .int rn, .int (bI tr), .ref he, .int (nI ec_47), .int me_47])), (hm, .inr (1, [.int sc, .ref hn, .int (nI nk)])), (hn, .inl (cI, 16, .inl nd)), (hs, .inr (2, [.ref hw, .int (nI bl), .int dn, .int lf])), (hw, .inl (cI, 40, .inl M)), (he, .inl (cI, 3, .inl en_47))] := hD.sub [0, 1, 2, 3, 4, 5] (by decide) rfl
          clear hPc hDc hFc hP1 hD1 zk zz zvm zt
          refine bz_eq (tgt := 58) hx hb d_TS_startConfirmed_51 (by decide) (fun h_48 => ?_) (fun h_48 => ?_)
          · subst h_48
            refine lv_iload_n hx hb d_TS_startConfirmed_58 rfl (lv_at hl 0 rfl) ?_
            refine lv_iconst (v := (-1)) hx hb d_TS_startConfirmed_59 (by decide) ?_
            refine lv_icmp_ne (tgt := 74) hx hb d_TS_startConfirmed_60 (by decide) (fun h_49 => ?_) (fun h_49 => ?_)
            · exact absurd h_49 (by decide)
            · refine lv_aload_n hx hb d_TS_startConfirmed_63 rfl (lv_at hl 2 rfl) ?_
              have hPc := hP.sub (ws' := [(ht, .inr (0, [.ref hm, .ref hs, .ref hp, .int (nI cn), .int rn, .int (bI tr), .ref he, .int (nI ec_47), .int me_47]))]) [0] rfl
              have hDc := hD.sub (ws' := [(ht, .inr (0, [.ref hm, .ref hs, .ref hp, .int (nI cn), .int rn, .int (bI tr), .ref he, .int (nI ec_47), .int me_47]))]) [0] (by decide) rfl
              have hFc := va_free (wc := [(ht, .inr (0, [.ref hm, .ref hs, .ref hp, .int (nI cn), .int rn, .int (bI tr), .ref he, .int (nI ec_47), .int me_47]))]) hD hS hA [0] rfl
              refine va_callv (va_runV (As := []) (rest := []) ⟨hx, hb, hml, hown, hts⟩ (c_TS_forgetStages l dC dI cI (ht := ht) (hm := hm) (hs := hs) (hp := hp) (cn := cn) (rn := rn) (tr := tr) (he := he) (ec := ec_47) (me := me_47)  (sz := H.size)) ⟨callB_of 0 hts (gd kw_301) rfl rfl rfl (hts _ kw_35) (hts _ kw_298) (by decide +kernel) ⟨Nat.le_of_ble_eq_true rfl, Nat.le_of_ble_eq_true rfl⟩, (hts _ kw_300), (hts _ kw_11)⟩ ⟨fun a U g mk q => by obtain ⟨q0, q1, qP, qK, qD⟩ := q; exact ⟨q0, q1, qP, qK.call, qD⟩, va_recv hK hP (ci := 0) rfl (q0 := 0) rfl, fun U hU hW => ⟨rfl, by rw [hU], by rw [hU]; exact hPc, hKN.warm hW, hDc.weaken (fun _ _ _ _ => trivial)⟩⟩ rfl rfl hl.1 rfl (lv_room (Nat.le_of_ble_eq_true rfl)) d_TS_startConfirmed_64 ⟨Nat.zero_le _, Nat.zero_le _⟩) hS (fun q _ h => hFc q h) hFc (fun u t H1 locs zt zvm zw zB zz zk hS => ?_)
              obtain ⟨ec_50, me_50⟩ := u
              have hu_50 := zw
              simp only [Prod.mk.injEq] at hu_50
              obtain ⟨rfl, rfl⟩ := hu_50
              obtain ⟨hP1, hD1⟩ := zB
              rw [zt] at hP1
              have hP1 : va_P (dC, dI) classes [(ht, .inr (0, [.ref hm, .ref hs, .ref hp, .int (nI cn), .int rn, .int (bI tr), .ref he, .int (nI 0), .int (nI 0)]))] H1 := hP1
              obtain ⟨hP, hD⟩ := va_join (wc := [(ht, .inr (0, [.ref hm, .ref hs, .ref hp, .int (nI cn), .int rn, .int (bI tr), .ref he, .int (nI ec_47), .int me_47]))]) (wr := [(hm, .inr (1, [.int sc, .ref hn, .int (nI nk)])), (hn, .inl (cI, 16, .inl nd)), (hs, .inr (2, [.ref hw, .int (nI bl), .int dn, .int lf])), (hw, .inl (cI, 40, .inl M)), (he, .inl (cI, 3, .inl en_47))]) (w1 := [(ht, .inr (0, [.ref hm, .ref hs, .ref hp, .int (nI cn), .int rn, .int (bI tr), .ref he, .int (nI 0), .int (nI 0)]))]) hP hD [0] [1, 2, 3, 4, 5] rfl rfl (by decide) (by decide) zk hFc hP1 hD1
              generalize H1 = H at hP hS ⊢
              have hP : va_P (dC, dI) classes [(ht, .inr (0, [.ref hm, .ref hs, .ref hp, .int (nI cn), .int rn, .int (bI tr), .ref he, .int (nI 0), .int (nI 0)])), (hm, .inr (1, [.int sc, .ref hn, .int (nI nk)])), (hn, .inl (cI, 16, .inl nd)), (hs, .inr (2, [.ref hw, .int (nI bl), .int dn, .int lf])), (hw, .inl (cI, 40, .inl M)), (he, .inl (cI, 3, .inl en_47))] H := hP.sub [5, 0, 1, 2, 3, 4] rfl
              have hD : va_D A [(ht, .inr (0, [.ref hm, .ref hs, .ref hp, .int (nI cn), .int rn, .int (bI tr), .ref he, .int (nI 0), .int (nI 0)])), (hm, .inr (1, [.int sc, .ref hn, .int (nI nk)])), (hn, .inl (cI, 16, .inl nd)), (hs, .inr (2, [.ref hw, .int (nI bl), .int dn, .int lf])), (hw, .inl (cI, 40, .inl M)), (he, .inl (cI, 3, .inl en_47))] := hD.sub [5, 0, 1, 2, 3, 4] (by decide) rfl
              clear hPc hDc hFc hP1 hD1 zk zz zvm zt
              refine lv_aload_n hx hb d_TS_startConfirmed_67 rfl (lv_at hl 2 rfl) ?_
              refine lv_iconst (v := (nI 2)) hx hb d_TS_startConfirmed_68 (by decide) ?_
              refine va_put (D := (dC, dI)) (ci := 0) (v := .int (nI 2)) (ty := .int) (C := R_TS) (T := F_TS) (N := 9) hx hb hts in_TS t_TS t_TS_ok n_TS hown hK hP hD hS 0 rfl rfl 4 (by decide) (hts _ kw_146) (fun _ h9 => h9) rfl (by decide +kernel) rfl rfl (Nat.le_of_ble_eq_true rfl) d_TS_startConfirmed_69 (fun H locs hP hD hS => ?_)
              have hP : va_P (dC, dI) classes [(ht, .inr (0, [.ref hm, .ref hs, .ref hp, .int (nI cn), .int (nI 2), .int (bI tr), .ref he, .int (nI 0), .int (nI 0)])), (hm, .inr (1, [.int sc, .ref hn, .int (nI nk)])), (hn, .inl (cI, 16, .inl nd)), (hs, .inr (2, [.ref hw, .int (nI bl), .int dn, .int lf])), (hw, .inl (cI, 40, .inl M)), (he, .inl (cI, 3, .inl en_47))] H := hP
              have hD : va_D A [(ht, .inr (0, [.ref hm, .ref hs, .ref hp, .int (nI cn), .int (nI 2), .int (bI tr), .ref he, .int (nI 0), .int (nI 0)])), (hm, .inr (1, [.int sc, .ref hn, .int (nI nk)])), (hn, .inl (cI, 16, .inl nd)), (hs, .inr (2, [.ref hw, .int (nI bl), .int dn, .int lf])), (hw, .inl (cI, 40, .inl M)), (he, .inl (cI, 3, .inl en_47))] := hD
              refine lv_iconst (v := (nI 2)) hx hb d_TS_startConfirmed_72 (by decide) ?_
              exact W.iret (v := (nI 2)) hx hb hr (fun t ht hW => ⟨⟨(nI 2), ((nI 2), tr, en_47, 0, (nI 0), bl, dn, lf), rfl, (by simp only [scC, t1, blw, hh0, h_30, hu_42, h_44, hu_47, eq_self, reduceCtorEq, if_true, if_false, Nat.reduceSub]), by rw [ht]; exact hP, hD⟩, hS.F ht⟩) hS.2.2 d_TS_startConfirmed_73
          · subst h_48
            refine lv_iconst (v := (nI 1)) hx hb d_TS_startConfirmed_54 (by decide) ?_
            refine lv_iload_n hx hb d_TS_startConfirmed_55 rfl (lv_at hl 1 rfl) ?_
            refine lv_isub hx hb d_TS_startConfirmed_56 ?_
            refine tp (y := (nI 0)) (by decide) ?_
            refine lv_istore_n (lv' := [(2, .int (nI 0)), (1, .int (nI 1)), (0, .ref ht)]) hx hb d_TS_startConfirmed_57 rfl hl (by decide) rfl (fun ls hl => ?_)
            refine lv_iload_n hx hb d_TS_startConfirmed_58 rfl (lv_at hl 0 rfl) ?_
            refine lv_iconst (v := (-1)) hx hb d_TS_startConfirmed_59 (by decide) ?_
            refine lv_icmp_ne (tgt := 74) hx hb d_TS_startConfirmed_60 (by decide) (fun h_51 => ?_) (fun h_51 => ?_)
            · refine lv_aload_n hx hb d_TS_startConfirmed_74 rfl (lv_at hl 2 rfl) ?_
              refine va_get (D := (dC, dI)) (ci := 0) (v := .ref hs) (C := R_TS) (T := F_TS) (N := 9) hx hb hts in_TS hown hK hP 0 rfl rfl 1 (by decide) (hts _ kw_143) (fun _ h9 => h9) rfl d_TS_startConfirmed_75 ?_
              refine lv_aload_n hx hb d_TS_startConfirmed_78 rfl (lv_at hl 2 rfl) ?_
              refine va_get (D := (dC, dI)) (ci := 0) (v := .ref hs) (C := R_TS) (T := F_TS) (N := 9) hx hb hts in_TS hown hK hP 0 rfl rfl 1 (by decide) (hts _ kw_143) (fun _ h9 => h9) rfl d_TS_startConfirmed_79 ?_
              refine lv_iload_n hx hb d_TS_startConfirmed_82 rfl (lv_at hl 0 rfl) ?_
              refine pr_call (va_runV (As := [.int (nI 0)]) (rest := [.ref hs]) ⟨hx, hb, hml, hown, hts⟩ (c_St_versionIn l dC dI cI (hs := hs) (k := 0) (hw := hw) (bl := bl) (dn := dn) (lf := lf) (M := M) (hk := (by omega))) ⟨callB_of 1 hts (gd kw_320) rfl rfl rfl (hts _ kw_39) (hts _ kw_317) (by decide +kernel) ⟨Nat.le_of_ble_eq_true rfl, Nat.le_of_ble_eq_true rfl⟩, (hts _ kw_318), (hts _ kw_319)⟩ ⟨fun a U g mk q => by obtain ⟨q0, qP, qK⟩ := q; exact ⟨q0, qP, qK.call⟩, va_recv hK hP (ci := 2) rfl (q0 := 3) rfl, fun U hU hW => ⟨rfl, by rw [hU]; exact hP.sub [3, 4] rfl, hKN.warm hW⟩⟩ rfl rfl hl.1 rfl (lv_room (Nat.le_of_ble_eq_true rfl)) d_TS_startConfirmed_83 ⟨Nat.zero_le _, Nat.zero_le _⟩) ?_
              have hPc := hP.sub (ws' := [(hs, .inr (2, [.ref hw, .int (nI bl), .int dn, .int lf]))]) [3] rfl
              have hDc := hD.sub (ws' := [(hs, .inr (2, [.ref hw, .int (nI bl), .int dn, .int lf]))]) [3] (by decide) rfl
              have hFc := va_free (wc := [(hs, .inr (2, [.ref hw, .int (nI bl), .int dn, .int lf]))]) hD hS hA [3] rfl
              refine va_calli (va_runV (As := [.int (M (0 * 17))]) (rest := []) ⟨hx, hb, hml, hown, hts⟩ (c_St_blowUpTo l dC dI cI (hs := hs) (v := M (0 * 17)) (hw := hw) (bl := bl) (dn := dn) (lf := lf) (hbl := (by omega)) (sz := H.size)) ⟨callB_of 1 hts (gd kw_341) rfl rfl rfl (hts _ kw_39) (hts _ kw_338) (by decide +kernel) ⟨Nat.le_of_ble_eq_true rfl, Nat.le_of_ble_eq_true rfl⟩, (hts _ kw_339), (hts _ kw_340)⟩ ⟨fun a U g mk q => by obtain ⟨q0, q1, qP, qK, qD⟩ := q; exact ⟨q0, q1, qP, qK.call, qD⟩, va_recv hK hP (ci := 2) rfl (q0 := 3) rfl, fun U hU hW => ⟨rfl, by rw [hU], by rw [hU]; exact hPc, hKN.warm hW, hDc.weaken (fun _ _ _ _ => trivial)⟩⟩ rfl rfl hl.1 rfl (lv_room (Nat.le_of_ble_eq_true rfl)) d_TS_startConfirmed_86 ⟨Nat.zero_le _, Nat.zero_le _⟩) hS (fun q _ h => hFc q h) hFc (fun r u t H1 locs zt zvm zw zB zz zk hS => ?_)
              obtain ⟨bl_52, dn_52, lf_52⟩ := u
              obtain ⟨b_52, rfl, hu_52⟩ := zw
              obtain ⟨hP1, hD1⟩ := zB
              rw [zt] at hP1
              have hP1 : va_P (dC, dI) classes [(hs, .inr (2, [.ref hw, .int (nI bl_52), .int dn_52, .int lf_52]))] H1 := hP1
              obtain ⟨hP, hD⟩ := va_join (wc := [(hs, .inr (2, [.ref hw, .int (nI bl), .int dn, .int lf]))]) (wr := [(ht, .inr (0, [.ref hm, .ref hs, .ref hp, .int (nI cn), .int rn, .int (bI tr), .ref he, .int (nI ec_47), .int me_47])), (hm, .inr (1, [.int sc, .ref hn, .int (nI nk)])), (hn, .inl (cI, 16, .inl nd)), (hw, .inl (cI, 40, .inl M)), (he, .inl (cI, 3, .inl en_47))]) (w1 := [(hs, .inr (2, [.ref hw, .int (nI bl_52), .int dn_52, .int lf_52]))]) hP hD [3] [0, 1, 2, 4, 5] rfl rfl (by decide) (by decide) zk hFc hP1 hD1
              generalize H1 = H at hP hS ⊢
              have hP : va_P (dC, dI) classes [(ht, .inr (0, [.ref hm, .ref hs, .ref hp, .int (nI cn), .int rn, .int (bI tr), .ref he, .int (nI ec_47), .int me_47])), (hm, .inr (1, [.int sc, .ref hn, .int (nI nk)])), (hn, .inl (cI, 16, .inl nd)), (hs, .inr (2, [.ref hw, .int (nI bl_52), .int dn_52, .int lf_52])), (hw, .inl (cI, 40, .inl M)), (he, .inl (cI, 3, .inl en_47))] H := hP.sub [0, 1, 2, 5, 3, 4] rfl
              have hD : va_D A [(ht, .inr (0, [.ref hm, .ref hs, .ref hp, .int (nI cn), .int rn, .int (bI tr), .ref he, .int (nI ec_47), .int me_47])), (hm, .inr (1, [.int sc, .ref hn, .int (nI nk)])), (hn, .inl (cI, 16, .inl nd)), (hs, .inr (2, [.ref hw, .int (nI bl_52), .int dn_52, .int lf_52])), (hw, .inl (cI, 40, .inl M)), (he, .inl (cI, 3, .inl en_47))] := hD.sub [0, 1, 2, 5, 3, 4] (by decide) rfl
              clear hPc hDc hFc hP1 hD1 zk zz zvm zt
              refine bz_ne (tgt := 97) hx hb d_TS_startConfirmed_89 (by decide) (fun h_53 => ?_) (fun h_53 => ?_)
              · subst h_53
                refine lv_aload_n hx hb d_TS_startConfirmed_97 rfl (lv_at hl 2 rfl) ?_
                refine lv_iload_n hx hb d_TS_startConfirmed_98 rfl (lv_at hl 0 rfl) ?_
                refine va_put (D := (dC, dI)) (ci := 0) (v := .int (nI 0)) (ty := .int) (C := R_TS) (T := F_TS) (N := 9) hx hb hts in_TS t_TS t_TS_ok n_TS hown hK hP hD hS 0 rfl rfl 4 (by decide) (hts _ kw_146) (fun _ h9 => h9) rfl (by decide +kernel) rfl rfl (Nat.le_of_ble_eq_true rfl) d_TS_startConfirmed_99 (fun H locs hP hD hS => ?_)
                have hP : va_P (dC, dI) classes [(ht, .inr (0, [.ref hm, .ref hs, .ref hp, .int (nI cn), .int (nI 0), .int (bI tr), .ref he, .int (nI ec_47), .int me_47])), (hm, .inr (1, [.int sc, .ref hn, .int (nI nk)])), (hn, .inl (cI, 16, .inl nd)), (hs, .inr (2, [.ref hw, .int (nI bl_52), .int dn_52, .int lf_52])), (hw, .inl (cI, 40, .inl M)), (he, .inl (cI, 3, .inl en_47))] H := hP
                have hD : va_D A [(ht, .inr (0, [.ref hm, .ref hs, .ref hp, .int (nI cn), .int (nI 0), .int (bI tr), .ref he, .int (nI ec_47), .int me_47])), (hm, .inr (1, [.int sc, .ref hn, .int (nI nk)])), (hn, .inl (cI, 16, .inl nd)), (hs, .inr (2, [.ref hw, .int (nI bl_52), .int dn_52, .int lf_52])), (hw, .inl (cI, 40, .inl M)), (he, .inl (cI, 3, .inl en_47))] := hD
                refine lv_iload_n hx hb d_TS_startConfirmed_102 rfl (lv_at hl 0 rfl) ?_
                exact W.iret (v := (nI 0)) hx hb hr (fun t ht hW => ⟨⟨(nI 0), ((nI 0), tr, en_47, ec_47, me_47, bl_52, dn_52, lf_52), rfl, (by simp only [scC, t1, blw, hh0, h_30, hu_42, h_44, hu_47, hu_52, eq_self, reduceCtorEq, if_true, if_false, Nat.reduceSub]), by rw [ht]; exact hP, hD⟩, hS.F ht⟩) hS.2.2 d_TS_startConfirmed_103
              · subst h_53
                refine lv_aload_n hx hb d_TS_startConfirmed_92 rfl (lv_at hl 2 rfl) ?_
                have hPc := hP.sub (ws' := [(ht, .inr (0, [.ref hm, .ref hs, .ref hp, .int (nI cn), .int rn, .int (bI tr), .ref he, .int (nI ec_47), .int me_47]))]) [0] rfl
                have hDc := hD.sub (ws' := [(ht, .inr (0, [.ref hm, .ref hs, .ref hp, .int (nI cn), .int rn, .int (bI tr), .ref he, .int (nI ec_47), .int me_47]))]) [0] (by decide) rfl
                have hFc := va_free (wc := [(ht, .inr (0, [.ref hm, .ref hs, .ref hp, .int (nI cn), .int rn, .int (bI tr), .ref he, .int (nI ec_47), .int me_47]))]) hD hS hA [0] rfl
                refine va_calli (va_runV (As := []) (rest := []) ⟨hx, hb, hml, hown, hts⟩ (c_TS_powerLost l dC dI cI (ht := ht) (hm := hm) (hs := hs) (hp := hp) (cn := cn) (rn := rn) (tr := tr) (he := he) (ec := ec_47) (me := me_47)  (sz := H.size)) ⟨callB_of 0 hts (gd kw_293) rfl rfl rfl (hts _ kw_35) (hts _ kw_290) (by decide +kernel) ⟨Nat.le_of_ble_eq_true rfl, Nat.le_of_ble_eq_true rfl⟩, (hts _ kw_292), (hts _ kw_9)⟩ ⟨fun a U g mk q => by obtain ⟨q0, q1, qP, qK, qD⟩ := q; exact ⟨q0, q1, qP, qK.call, qD⟩, va_recv hK hP (ci := 0) rfl (q0 := 0) rfl, fun U hU hW => ⟨rfl, by rw [hU], by rw [hU]; exact hPc, hKN.warm hW, hDc.weaken (fun _ _ _ _ => trivial)⟩⟩ rfl rfl hl.1 rfl (lv_room (Nat.le_of_ble_eq_true rfl)) d_TS_startConfirmed_93 ⟨Nat.zero_le _, Nat.zero_le _⟩) hS (fun q _ h => hFc q h) hFc (fun r u t H1 locs zt zvm zw zB zz zk hS => ?_)
                obtain ⟨rn_54, tr_54, ec_54, me_54⟩ := u
                obtain ⟨r_54, rfl⟩ : ∃ z, z = r := ⟨_, rfl⟩
                have hu_54 := zw
                simp only [Prod.mk.injEq] at hu_54
                obtain ⟨rfl, rfl, rfl, rfl, rfl⟩ := hu_54
                obtain ⟨hP1, hD1⟩ := zB
                rw [zt] at hP1
                have hP1 : va_P (dC, dI) classes [(ht, .inr (0, [.ref hm, .ref hs, .ref hp, .int (nI cn), .int (-1), .int (bI false), .ref he, .int (nI 0), .int (nI 0)]))] H1 := hP1
                obtain ⟨hP, hD⟩ := va_join (wc := [(ht, .inr (0, [.ref hm, .ref hs, .ref hp, .int (nI cn), .int rn, .int (bI tr), .ref he, .int (nI ec_47), .int me_47]))]) (wr := [(hm, .inr (1, [.int sc, .ref hn, .int (nI nk)])), (hn, .inl (cI, 16, .inl nd)), (hs, .inr (2, [.ref hw, .int (nI bl_52), .int dn_52, .int lf_52])), (hw, .inl (cI, 40, .inl M)), (he, .inl (cI, 3, .inl en_47))]) (w1 := [(ht, .inr (0, [.ref hm, .ref hs, .ref hp, .int (nI cn), .int (-1), .int (bI false), .ref he, .int (nI 0), .int (nI 0)]))]) hP hD [0] [1, 2, 3, 4, 5] rfl rfl (by decide) (by decide) zk hFc hP1 hD1
                generalize H1 = H at hP hS ⊢
                have hP : va_P (dC, dI) classes [(ht, .inr (0, [.ref hm, .ref hs, .ref hp, .int (nI cn), .int (-1), .int (bI false), .ref he, .int (nI 0), .int (nI 0)])), (hm, .inr (1, [.int sc, .ref hn, .int (nI nk)])), (hn, .inl (cI, 16, .inl nd)), (hs, .inr (2, [.ref hw, .int (nI bl_52), .int dn_52, .int lf_52])), (hw, .inl (cI, 40, .inl M)), (he, .inl (cI, 3, .inl en_47))] H := hP.sub [5, 0, 1, 2, 3, 4] rfl
                have hD : va_D A [(ht, .inr (0, [.ref hm, .ref hs, .ref hp, .int (nI cn), .int (-1), .int (bI false), .ref he, .int (nI 0), .int (nI 0)])), (hm, .inr (1, [.int sc, .ref hn, .int (nI nk)])), (hn, .inl (cI, 16, .inl nd)), (hs, .inr (2, [.ref hw, .int (nI bl_52), .int dn_52, .int lf_52])), (hw, .inl (cI, 40, .inl M)), (he, .inl (cI, 3, .inl en_47))] := hD.sub [5, 0, 1, 2, 3, 4] (by decide) rfl
                clear hPc hDc hFc hP1 hD1 zk zz zvm zt
                exact W.iret (v := (-1)) hx hb hr (fun t ht hW => ⟨⟨(-1), ((-1), false, en_47, 0, (nI 0), bl_52, dn_52, lf_52), rfl, (by simp only [scC, t1, blw, hh0, h_30, hu_42, h_44, hu_47, hu_52, eq_self, reduceCtorEq, if_true, if_false, Nat.reduceSub]), by rw [ht]; exact hP, hD⟩, hS.F ht⟩) hS.2.2 d_TS_startConfirmed_96
            · exact absurd h_51 (by decide)
      · subst h_43
        refine lv_iload_n hx hb d_TS_startConfirmed_29 rfl (lv_at hl 1 rfl) ?_
        refine lv_istore_n (lv' := [(2, .int (nI 1)), (1, .int (nI 1)), (0, .ref ht)]) hx hb d_TS_startConfirmed_30 rfl hl (by decide) rfl (fun ls hl => ?_)
        refine lv_goto (tgt := 58) hx hb d_TS_startConfirmed_31 (by decide) ?_
        refine lv_iload_n hx hb d_TS_startConfirmed_58 rfl (lv_at hl 0 rfl) ?_
        refine lv_iconst (v := (-1)) hx hb d_TS_startConfirmed_59 (by decide) ?_
        refine lv_icmp_ne (tgt := 74) hx hb d_TS_startConfirmed_60 (by decide) (fun h_55 => ?_) (fun h_55 => ?_)
        · refine lv_aload_n hx hb d_TS_startConfirmed_74 rfl (lv_at hl 2 rfl) ?_
          refine va_get (D := (dC, dI)) (ci := 0) (v := .ref hs) (C := R_TS) (T := F_TS) (N := 9) hx hb hts in_TS hown hK hP 0 rfl rfl 1 (by decide) (hts _ kw_143) (fun _ h9 => h9) rfl d_TS_startConfirmed_75 ?_
          refine lv_aload_n hx hb d_TS_startConfirmed_78 rfl (lv_at hl 2 rfl) ?_
          refine va_get (D := (dC, dI)) (ci := 0) (v := .ref hs) (C := R_TS) (T := F_TS) (N := 9) hx hb hts in_TS hown hK hP 0 rfl rfl 1 (by decide) (hts _ kw_143) (fun _ h9 => h9) rfl d_TS_startConfirmed_79 ?_
          refine lv_iload_n hx hb d_TS_startConfirmed_82 rfl (lv_at hl 0 rfl) ?_
          refine pr_call (va_runV (As := [.int (nI 1)]) (rest := [.ref hs]) ⟨hx, hb, hml, hown, hts⟩ (c_St_versionIn l dC dI cI (hs := hs) (k := 1) (hw := hw) (bl := bl) (dn := dn) (lf := lf) (M := M) (hk := (by omega))) ⟨callB_of 1 hts (gd kw_320) rfl rfl rfl (hts _ kw_39) (hts _ kw_317) (by decide +kernel) ⟨Nat.le_of_ble_eq_true rfl, Nat.le_of_ble_eq_true rfl⟩, (hts _ kw_318), (hts _ kw_319)⟩ ⟨fun a U g mk q => by obtain ⟨q0, qP, qK⟩ := q; exact ⟨q0, qP, qK.call⟩, va_recv hK hP (ci := 2) rfl (q0 := 3) rfl, fun U hU hW => ⟨rfl, by rw [hU]; exact hP.sub [3, 4] rfl, hKN.warm hW⟩⟩ rfl rfl hl.1 rfl (lv_room (Nat.le_of_ble_eq_true rfl)) d_TS_startConfirmed_83 ⟨Nat.zero_le _, Nat.zero_le _⟩) ?_
          have hPc := hP.sub (ws' := [(hs, .inr (2, [.ref hw, .int (nI bl), .int dn, .int lf]))]) [3] rfl
          have hDc := hD.sub (ws' := [(hs, .inr (2, [.ref hw, .int (nI bl), .int dn, .int lf]))]) [3] (by decide) rfl
          have hFc := va_free (wc := [(hs, .inr (2, [.ref hw, .int (nI bl), .int dn, .int lf]))]) hD hS hA [3] rfl
          refine va_calli (va_runV (As := [.int (M (1 * 17))]) (rest := []) ⟨hx, hb, hml, hown, hts⟩ (c_St_blowUpTo l dC dI cI (hs := hs) (v := M (1 * 17)) (hw := hw) (bl := bl) (dn := dn) (lf := lf) (hbl := (by omega)) (sz := H.size)) ⟨callB_of 1 hts (gd kw_341) rfl rfl rfl (hts _ kw_39) (hts _ kw_338) (by decide +kernel) ⟨Nat.le_of_ble_eq_true rfl, Nat.le_of_ble_eq_true rfl⟩, (hts _ kw_339), (hts _ kw_340)⟩ ⟨fun a U g mk q => by obtain ⟨q0, q1, qP, qK, qD⟩ := q; exact ⟨q0, q1, qP, qK.call, qD⟩, va_recv hK hP (ci := 2) rfl (q0 := 3) rfl, fun U hU hW => ⟨rfl, by rw [hU], by rw [hU]; exact hPc, hKN.warm hW, hDc.weaken (fun _ _ _ _ => trivial)⟩⟩ rfl rfl hl.1 rfl (lv_room (Nat.le_of_ble_eq_true rfl)) d_TS_startConfirmed_86 ⟨Nat.zero_le _, Nat.zero_le _⟩) hS (fun q _ h => hFc q h) hFc (fun r u t H1 locs zt zvm zw zB zz zk hS => ?_)
          obtain ⟨bl_56, dn_56, lf_56⟩ := u
          obtain ⟨b_56, rfl, hu_56⟩ := zw
          obtain ⟨hP1, hD1⟩ := zB
          rw [zt] at hP1
          have hP1 : va_P (dC, dI) classes [(hs, .inr (2, [.ref hw, .int (nI bl_56), .int dn_56, .int lf_56]))] H1 := hP1
          obtain ⟨hP, hD⟩ := va_join (wc := [(hs, .inr (2, [.ref hw, .int (nI bl), .int dn, .int lf]))]) (wr := [(ht, .inr (0, [.ref hm, .ref hs, .ref hp, .int (nI cn), .int rn, .int (bI tr), .ref he, .int (nI ec_42), .int me_42])), (hm, .inr (1, [.int sc, .ref hn, .int (nI nk)])), (hn, .inl (cI, 16, .inl nd)), (hw, .inl (cI, 40, .inl M)), (he, .inl (cI, 3, .inl en_42))]) (w1 := [(hs, .inr (2, [.ref hw, .int (nI bl_56), .int dn_56, .int lf_56]))]) hP hD [3] [0, 1, 2, 4, 5] rfl rfl (by decide) (by decide) zk hFc hP1 hD1
          generalize H1 = H at hP hS ⊢
          have hP : va_P (dC, dI) classes [(ht, .inr (0, [.ref hm, .ref hs, .ref hp, .int (nI cn), .int rn, .int (bI tr), .ref he, .int (nI ec_42), .int me_42])), (hm, .inr (1, [.int sc, .ref hn, .int (nI nk)])), (hn, .inl (cI, 16, .inl nd)), (hs, .inr (2, [.ref hw, .int (nI bl_56), .int dn_56, .int lf_56])), (hw, .inl (cI, 40, .inl M)), (he, .inl (cI, 3, .inl en_42))] H := hP.sub [0, 1, 2, 5, 3, 4] rfl
          have hD : va_D A [(ht, .inr (0, [.ref hm, .ref hs, .ref hp, .int (nI cn), .int rn, .int (bI tr), .ref he, .int (nI ec_42), .int me_42])), (hm, .inr (1, [.int sc, .ref hn, .int (nI nk)])), (hn, .inl (cI, 16, .inl nd)), (hs, .inr (2, [.ref hw, .int (nI bl_56), .int dn_56, .int lf_56])), (hw, .inl (cI, 40, .inl M)), (he, .inl (cI, 3, .inl en_42))] := hD.sub [0, 1, 2, 5, 3, 4] (by decide) rfl
          clear hPc hDc hFc hP1 hD1 zk zz zvm zt
          refine bz_ne (tgt := 97) hx hb d_TS_startConfirmed_89 (by decide) (fun h_57 => ?_) (fun h_57 => ?_)
          · subst h_57
            refine lv_aload_n hx hb d_TS_startConfirmed_97 rfl (lv_at hl 2 rfl) ?_
            refine lv_iload_n hx hb d_TS_startConfirmed_98 rfl (lv_at hl 0 rfl) ?_
            refine va_put (D := (dC, dI)) (ci := 0) (v := .int (nI 1)) (ty := .int) (C := R_TS) (T := F_TS) (N := 9) hx hb hts in_TS t_TS t_TS_ok n_TS hown hK hP hD hS 0 rfl rfl 4 (by decide) (hts _ kw_146) (fun _ h9 => h9) rfl (by decide +kernel) rfl rfl (Nat.le_of_ble_eq_true rfl) d_TS_startConfirmed_99 (fun H locs hP hD hS => ?_)
            have hP : va_P (dC, dI) classes [(ht, .inr (0, [.ref hm, .ref hs, .ref hp, .int (nI cn), .int (nI 1), .int (bI tr), .ref he, .int (nI ec_42), .int me_42])), (hm, .inr (1, [.int sc, .ref hn, .int (nI nk)])), (hn, .inl (cI, 16, .inl nd)), (hs, .inr (2, [.ref hw, .int (nI bl_56), .int dn_56, .int lf_56])), (hw, .inl (cI, 40, .inl M)), (he, .inl (cI, 3, .inl en_42))] H := hP
            have hD : va_D A [(ht, .inr (0, [.ref hm, .ref hs, .ref hp, .int (nI cn), .int (nI 1), .int (bI tr), .ref he, .int (nI ec_42), .int me_42])), (hm, .inr (1, [.int sc, .ref hn, .int (nI nk)])), (hn, .inl (cI, 16, .inl nd)), (hs, .inr (2, [.ref hw, .int (nI bl_56), .int dn_56, .int lf_56])), (hw, .inl (cI, 40, .inl M)), (he, .inl (cI, 3, .inl en_42))] := hD
            refine lv_iload_n hx hb d_TS_startConfirmed_102 rfl (lv_at hl 0 rfl) ?_
            exact W.iret (v := (nI 1)) hx hb hr (fun t ht hW => ⟨⟨(nI 1), ((nI 1), tr, en_42, ec_42, me_42, bl_56, dn_56, lf_56), rfl, (by simp only [scC, t1, blw, hh0, h_30, hu_42, hu_56, eq_self, reduceCtorEq, if_true, if_false, Nat.reduceSub]), by rw [ht]; exact hP, hD⟩, hS.F ht⟩) hS.2.2 d_TS_startConfirmed_103
          · subst h_57
            refine lv_aload_n hx hb d_TS_startConfirmed_92 rfl (lv_at hl 2 rfl) ?_
            have hPc := hP.sub (ws' := [(ht, .inr (0, [.ref hm, .ref hs, .ref hp, .int (nI cn), .int rn, .int (bI tr), .ref he, .int (nI ec_42), .int me_42]))]) [0] rfl
            have hDc := hD.sub (ws' := [(ht, .inr (0, [.ref hm, .ref hs, .ref hp, .int (nI cn), .int rn, .int (bI tr), .ref he, .int (nI ec_42), .int me_42]))]) [0] (by decide) rfl
            have hFc := va_free (wc := [(ht, .inr (0, [.ref hm, .ref hs, .ref hp, .int (nI cn), .int rn, .int (bI tr), .ref he, .int (nI ec_42), .int me_42]))]) hD hS hA [0] rfl
            refine va_calli (va_runV (As := []) (rest := []) ⟨hx, hb, hml, hown, hts⟩ (c_TS_powerLost l dC dI cI (ht := ht) (hm := hm) (hs := hs) (hp := hp) (cn := cn) (rn := rn) (tr := tr) (he := he) (ec := ec_42) (me := me_42)  (sz := H.size)) ⟨callB_of 0 hts (gd kw_293) rfl rfl rfl (hts _ kw_35) (hts _ kw_290) (by decide +kernel) ⟨Nat.le_of_ble_eq_true rfl, Nat.le_of_ble_eq_true rfl⟩, (hts _ kw_292), (hts _ kw_9)⟩ ⟨fun a U g mk q => by obtain ⟨q0, q1, qP, qK, qD⟩ := q; exact ⟨q0, q1, qP, qK.call, qD⟩, va_recv hK hP (ci := 0) rfl (q0 := 0) rfl, fun U hU hW => ⟨rfl, by rw [hU], by rw [hU]; exact hPc, hKN.warm hW, hDc.weaken (fun _ _ _ _ => trivial)⟩⟩ rfl rfl hl.1 rfl (lv_room (Nat.le_of_ble_eq_true rfl)) d_TS_startConfirmed_93 ⟨Nat.zero_le _, Nat.zero_le _⟩) hS (fun q _ h => hFc q h) hFc (fun r u t H1 locs zt zvm zw zB zz zk hS => ?_)
            obtain ⟨rn_58, tr_58, ec_58, me_58⟩ := u
            obtain ⟨r_58, rfl⟩ : ∃ z, z = r := ⟨_, rfl⟩
            have hu_58 := zw
            simp only [Prod.mk.injEq] at hu_58
            obtain ⟨rfl, rfl, rfl, rfl, rfl⟩ := hu_58
            obtain ⟨hP1, hD1⟩ := zB
            rw [zt] at hP1
            have hP1 : va_P (dC, dI) classes [(ht, .inr (0, [.ref hm, .ref hs, .ref hp, .int (nI cn), .int (-1), .int (bI false), .ref he, .int (nI 0), .int (nI 0)]))] H1 := hP1
            obtain ⟨hP, hD⟩ := va_join (wc := [(ht, .inr (0, [.ref hm, .ref hs, .ref hp, .int (nI cn), .int rn, .int (bI tr), .ref he, .int (nI ec_42), .int me_42]))]) (wr := [(hm, .inr (1, [.int sc, .ref hn, .int (nI nk)])), (hn, .inl (cI, 16, .inl nd)), (hs, .inr (2, [.ref hw, .int (nI bl_56), .int dn_56, .int lf_56])), (hw, .inl (cI, 40, .inl M)), (he, .inl (cI, 3, .inl en_42))]) (w1 := [(ht, .inr (0, [.ref hm, .ref hs, .ref hp, .int (nI cn), .int (-1), .int (bI false), .ref he, .int (nI 0), .int (nI 0)]))]) hP hD [0] [1, 2, 3, 4, 5] rfl rfl (by decide) (by decide) zk hFc hP1 hD1
            generalize H1 = H at hP hS ⊢
            have hP : va_P (dC, dI) classes [(ht, .inr (0, [.ref hm, .ref hs, .ref hp, .int (nI cn), .int (-1), .int (bI false), .ref he, .int (nI 0), .int (nI 0)])), (hm, .inr (1, [.int sc, .ref hn, .int (nI nk)])), (hn, .inl (cI, 16, .inl nd)), (hs, .inr (2, [.ref hw, .int (nI bl_56), .int dn_56, .int lf_56])), (hw, .inl (cI, 40, .inl M)), (he, .inl (cI, 3, .inl en_42))] H := hP.sub [5, 0, 1, 2, 3, 4] rfl
            have hD : va_D A [(ht, .inr (0, [.ref hm, .ref hs, .ref hp, .int (nI cn), .int (-1), .int (bI false), .ref he, .int (nI 0), .int (nI 0)])), (hm, .inr (1, [.int sc, .ref hn, .int (nI nk)])), (hn, .inl (cI, 16, .inl nd)), (hs, .inr (2, [.ref hw, .int (nI bl_56), .int dn_56, .int lf_56])), (hw, .inl (cI, 40, .inl M)), (he, .inl (cI, 3, .inl en_42))] := hD.sub [5, 0, 1, 2, 3, 4] (by decide) rfl
            clear hPc hDc hFc hP1 hD1 zk zz zvm zt
            exact W.iret (v := (-1)) hx hb hr (fun t ht hW => ⟨⟨(-1), ((-1), false, en_42, 0, (nI 0), bl_56, dn_56, lf_56), rfl, (by simp only [scC, t1, blw, hh0, h_30, hu_42, hu_56, eq_self, reduceCtorEq, if_true, if_false, Nat.reduceSub]), by rw [ht]; exact hP, hD⟩, hS.F ht⟩) hS.2.2 d_TS_startConfirmed_96
        · exact absurd h_55 (by decide)
set_option maxHeartbeats 4000000 in
set_option maxRecDepth 100000 in
theorem c_TS_boot (l : Launch) (dC : Nat → ClassId) (dI : Nat → Nat → Nat) (cI : ClassId) (ht : Nat) (hm : Nat) (hs : Nat) (hp : Nat) (cn : Nat) (rn : Int32) (tr : Bool) (he : Nat) (ec : Nat) (me : Int32) (sc : Int32) (hn : Nat) (nk : Nat) (nd : Nat → Int32) (hw : Nat) (bl : Nat) (dn : Int32) (lf : Int32) (M : Nat → Int32) (en : Nat → Int32) (hbl : bl ≤ 32) (sz : Nat) : Met l y_TS_boot w_TS_boot ({ frames := 7, cells := 0, slots := 0, locals := 151 }) (va_Pc [.ref ht] (fun U => U.heap.size = sz ∧ va_P (dC, dI) classes [(ht, .inr (0, [.ref hm, .ref hs, .ref hp, .int (nI cn), .int rn, .int (bI tr), .ref he, .int (nI ec), .int me])), (hm, .inr (1, [.int sc, .ref hn, .int (nI nk)])), (hn, .inl (cI, 16, .inl nd)), (hs, .inr (2, [.ref hw, .int (nI bl), .int dn, .int lf])), (hw, .inl (cI, 40, .inl M)), (he, .inl (cI, 3, .inl en))] U.heap ∧ KN dC dI cI U ∧ va_D (fun _ => True) [(ht, .inr (0, [.ref hm, .ref hs, .ref hp, .int (nI cn), .int rn, .int (bI tr), .ref he, .int (nI ec), .int me])), (hm, .inr (1, [.int sc, .ref hn, .int (nI nk)])), (hn, .inl (cI, 16, .inl nd)), (hs, .inr (2, [.ref hw, .int (nI bl), .int dn, .int lf])), (hw, .inl (cI, 40, .inl M)), (he, .inl (cI, 3, .inl en))])) (va_Qi (fun (r : Int32) (u : Int32 × Bool × (Nat → Int32) × Nat × Int32 × (Nat → Int32) × Nat × Int32 × Int32) => btC (nd 1) en M bl dn lf = (r, u)) (fun (u : Int32 × Bool × (Nat → Int32) × Nat × Int32 × (Nat → Int32) × Nat × Int32 × Int32) t => va_P (dC, dI) classes [(ht, .inr (0, [.ref hm, .ref hs, .ref hp, .int (nI cn), .int u.1, .int (bI u.2.1), .ref he, .int (nI u.2.2.2.1), .int u.2.2.2.2.1])), (hm, .inr (1, [.int sc, .ref hn, .int (nI nk)])), (hn, .inl (cI, 16, .inl nd)), (hs, .inr (2, [.ref hw, .int (nI u.2.2.2.2.2.2.1), .int u.2.2.2.2.2.2.2.1, .int u.2.2.2.2.2.2.2.2])), (hw, .inl (cI, 40, .inl u.2.2.2.2.2.1)), (he, .inl (cI, 3, .inl u.2.2.1))] t.heap ∧ va_D (va_A [(ht, .inr (0, [.ref hm, .ref hs, .ref hp, .int (nI cn), .int rn, .int (bI tr), .ref he, .int (nI ec), .int me])), (hm, .inr (1, [.int sc, .ref hn, .int (nI nk)])), (hn, .inl (cI, 16, .inl nd)), (hs, .inr (2, [.ref hw, .int (nI bl), .int dn, .int lf])), (hw, .inl (cI, 40, .inl M)), (he, .inl (cI, 3, .inl en))] sz) [(ht, .inr (0, [.ref hm, .ref hs, .ref hp, .int (nI cn), .int u.1, .int (bI u.2.1), .ref he, .int (nI u.2.2.2.1), .int u.2.2.2.2.1])), (hm, .inr (1, [.int sc, .ref hn, .int (nI nk)])), (hn, .inl (cI, 16, .inl nd)), (hs, .inr (2, [.ref hw, .int (nI u.2.2.2.2.2.2.1), .int u.2.2.2.2.2.2.2.1, .int u.2.2.2.2.2.2.2.2])), (hw, .inl (cI, 40, .inl u.2.2.2.2.2.1)), (he, .inl (cI, 3, .inl u.2.2.1))]) (va_A [(ht, .inr (0, [.ref hm, .ref hs, .ref hp, .int (nI cn), .int rn, .int (bI tr), .ref he, .int (nI ec), .int me])), (hm, .inr (1, [.int sc, .ref hn, .int (nI nk)])), (hn, .inl (cI, 16, .inl nd)), (hs, .inr (2, [.ref hw, .int (nI bl), .int dn, .int lf])), (hw, .inl (cI, 40, .inl M)), (he, .inl (cI, 3, .inl en))] sz)) 0 0 (va_A [(ht, .inr (0, [.ref hm, .ref hs, .ref hp, .int (nI cn), .int rn, .int (bI tr), .ref he, .int (nI ec), .int me])), (hm, .inr (1, [.int sc, .ref hn, .int (nI nk)])), (hn, .inl (cI, 16, .inl nd)), (hs, .inr (2, [.ref hw, .int (nI bl), .int dn, .int lf])), (hw, .inl (cI, 40, .inl M)), (he, .inl (cI, 3, .inl en))] sz) := by
  refine Met.ofW (cc := b_TS_boot) (maxL := 3) (ret := (some .int)) (by decide) rfl ?_
  intro p e s m args below meth c s₁ B hml hv
  obtain ⟨rfl, hsz, hP, hKN, hD0⟩ := hv
  have hK := hKN.1
  have hx := B.exec
  have hb := B.bytes
  have hr := B.returns
  have hts := fun (w : Cond) (h : w ∈ gt) => atoms_spec (ws := w_TS_boot) B.pre w (List.mem_cons_of_mem _ h)
  have hown : s.vm.findClass R_TS = some m.cls := findClass_of_methodNamed B.named
  have hlocks := B.notSynchronized
  subst hsz
  have hD := hD0.self (sz := s.heap.size)
  generalize hAe : va_A [(ht, .inr (0, [.ref hm, .ref hs, .ref hp, .int (nI cn), .int rn, .int (bI tr), .ref he, .int (nI ec), .int me])), (hm, .inr (1, [.int sc, .ref hn, .int (nI nk)])), (hn, .inl (cI, 16, .inl nd)), (hs, .inr (2, [.ref hw, .int (nI bl), .int dn, .int lf])), (hw, .inl (cI, 40, .inl M)), (he, .inl (cI, 3, .inl en))] s.heap.size = A at hD ⊢
  have hA : ∀ q : Nat, s.heap.size ≤ q → A q := fun q h => by rw [← hAe]; exact Or.inr h
  have hS : va_S A s.heap s.heap [] := va_S.rf
  have hP : va_P (dC, dI) classes [(ht, .inr (0, [.ref hm, .ref hs, .ref hp, .int (nI cn), .int rn, .int (bI tr), .ref he, .int (nI ec), .int me])), (hm, .inr (1, [.int sc, .ref hn, .int (nI nk)])), (hn, .inl (cI, 16, .inl nd)), (hs, .inr (2, [.ref hw, .int (nI bl), .int dn, .int lf])), (hw, .inl (cI, 40, .inl M)), (he, .inl (cI, 3, .inl en))] s.heap := hP
  clear hAe hD0
  have hl := lv_entry ([.ref ht]) (n := 3) (Nat.le_of_ble_eq_true rfl)
  rw [lg_entry_eq]
  generalize (lg_sl ([.ref ht]) ++ List.replicate (3 - (lg_sl ([.ref ht])).length) Slot.unset).toArray = ls at hl ⊢
  have hl : lv_has ls 3 [(0, .ref ht)] := hl
  refine lv_aload_n hx hb d_TS_boot_0 rfl (lv_at hl 0 rfl) ?_
  have hPc := hP.sub (ws' := [(ht, .inr (0, [.ref hm, .ref hs, .ref hp, .int (nI cn), .int rn, .int (bI tr), .ref he, .int (nI ec), .int me]))]) [0] rfl
  have hDc := hD.sub (ws' := [(ht, .inr (0, [.ref hm, .ref hs, .ref hp, .int (nI cn), .int rn, .int (bI tr), .ref he, .int (nI ec), .int me]))]) [0] (by decide) rfl
  have hFc := va_free (wc := [(ht, .inr (0, [.ref hm, .ref hs, .ref hp, .int (nI cn), .int rn, .int (bI tr), .ref he, .int (nI ec), .int me]))]) hD hS hA [0] rfl
  refine va_callv (va_runV (As := []) (rest := []) ⟨hx, hb, hml, hown, hts⟩ (c_TS_stop l dC dI cI (ht := ht) (hm := hm) (hs := hs) (hp := hp) (cn := cn) (rn := rn) (tr := tr) (he := he) (ec := ec) (me := me)  (sz := s.heap.size)) ⟨callB_of 0 hts (gd kw_297) rfl rfl rfl (hts _ kw_35) (hts _ kw_294) (by decide +kernel) ⟨Nat.le_of_ble_eq_true rfl, Nat.le_of_ble_eq_true rfl⟩, (hts _ kw_296), (hts _ kw_10)⟩ ⟨fun a U g mk q => by obtain ⟨q0, q1, qP, qK, qD⟩ := q; exact ⟨q0, q1, qP, qK.call, qD⟩, va_recv hK hP (ci := 0) rfl (q0 := 0) rfl, fun U hU hW => ⟨rfl, by rw [hU], by rw [hU]; exact hPc, hKN.warm hW, hDc.weaken (fun _ _ _ _ => trivial)⟩⟩ rfl rfl hl.1 rfl (lv_room (Nat.le_of_ble_eq_true rfl)) d_TS_boot_1 ⟨Nat.zero_le _, Nat.zero_le _⟩) hS (fun q _ h => hFc q h) hFc (fun u t H1 locs zt zvm zw zB zz zk hS => ?_)
  obtain ⟨rn_1, tr_1, ec_1, me_1⟩ := u
  have hu_1 := zw
  simp only [Prod.mk.injEq] at hu_1
  obtain ⟨rfl, rfl, rfl, rfl⟩ := hu_1
  obtain ⟨hP1, hD1⟩ := zB
  rw [zt] at hP1
  have hP1 : va_P (dC, dI) classes [(ht, .inr (0, [.ref hm, .ref hs, .ref hp, .int (nI cn), .int (-1), .int (bI false), .ref he, .int (nI 0), .int (nI 0)]))] H1 := hP1
  obtain ⟨hP, hD⟩ := va_join (wc := [(ht, .inr (0, [.ref hm, .ref hs, .ref hp, .int (nI cn), .int rn, .int (bI tr), .ref he, .int (nI ec), .int me]))]) (wr := [(hm, .inr (1, [.int sc, .ref hn, .int (nI nk)])), (hn, .inl (cI, 16, .inl nd)), (hs, .inr (2, [.ref hw, .int (nI bl), .int dn, .int lf])), (hw, .inl (cI, 40, .inl M)), (he, .inl (cI, 3, .inl en))]) (w1 := [(ht, .inr (0, [.ref hm, .ref hs, .ref hp, .int (nI cn), .int (-1), .int (bI false), .ref he, .int (nI 0), .int (nI 0)]))]) hP hD [0] [1, 2, 3, 4, 5] rfl rfl (by decide) (by decide) zk hFc hP1 hD1
  generalize H1 = H at hP hS ⊢
  have hP : va_P (dC, dI) classes [(ht, .inr (0, [.ref hm, .ref hs, .ref hp, .int (nI cn), .int (-1), .int (bI false), .ref he, .int (nI 0), .int (nI 0)])), (hm, .inr (1, [.int sc, .ref hn, .int (nI nk)])), (hn, .inl (cI, 16, .inl nd)), (hs, .inr (2, [.ref hw, .int (nI bl), .int dn, .int lf])), (hw, .inl (cI, 40, .inl M)), (he, .inl (cI, 3, .inl en))] H := hP.sub [5, 0, 1, 2, 3, 4] rfl
  have hD : va_D A [(ht, .inr (0, [.ref hm, .ref hs, .ref hp, .int (nI cn), .int (-1), .int (bI false), .ref he, .int (nI 0), .int (nI 0)])), (hm, .inr (1, [.int sc, .ref hn, .int (nI nk)])), (hn, .inl (cI, 16, .inl nd)), (hs, .inr (2, [.ref hw, .int (nI bl), .int dn, .int lf])), (hw, .inl (cI, 40, .inl M)), (he, .inl (cI, 3, .inl en))] := hD.sub [5, 0, 1, 2, 3, 4] (by decide) rfl
  clear hPc hDc hFc hP1 hD1 zk zz zvm zt
  refine lv_aload_n hx hb d_TS_boot_4 rfl (lv_at hl 0 rfl) ?_
  refine va_get (D := (dC, dI)) (ci := 0) (v := .ref hs) (C := R_TS) (T := F_TS) (N := 9) hx hb hts in_TS hown hK hP 0 rfl rfl 1 (by decide) (hts _ kw_143) (fun _ h9 => h9) rfl d_TS_boot_5 ?_
  refine pr_call (va_runV (As := []) (rest := []) ⟨hx, hb, hml, hown, hts⟩ (c_St_entry l dC dI cI (hs := hs) (hw := hw) (bl := bl) (dn := dn) (lf := lf) (M := M) ) ⟨callB_of 0 hts (gd kw_243) rfl rfl rfl (hts _ kw_39) (hts _ kw_240) (by decide +kernel) ⟨Nat.le_of_ble_eq_true rfl, Nat.le_of_ble_eq_true rfl⟩, (hts _ kw_241), (hts _ kw_242)⟩ ⟨fun a U g mk q => by obtain ⟨q0, qP, qK⟩ := q; exact ⟨q0, qP, qK.call⟩, va_recv hK hP (ci := 2) rfl (q0 := 3) rfl, fun U hU hW => ⟨rfl, by rw [hU]; exact hP.sub [3, 4] rfl, hKN.warm hW⟩⟩ rfl rfl hl.1 rfl (lv_room (Nat.le_of_ble_eq_true rfl)) d_TS_boot_8 ⟨Nat.zero_le _, Nat.zero_le _⟩) ?_
  refine lv_istore_n (lv' := [(1, .int (ety M)), (0, .ref ht)]) hx hb d_TS_boot_11 rfl hl (by decide) rfl (fun ls hl => ?_)
  refine lv_iload_n hx hb d_TS_boot_12 rfl (lv_at hl 0 rfl) ?_
  refine pr_call (va_runS (As := [.int (ety M)]) (rest := []) ⟨hx, hb, hml, hown, hts⟩ (c_Tb_trialIn l dC dI cI (en := ety M) ) ⟨callB_of 1 hts (gd kw_308) rfl rfl rfl (hts _ kw_42) (hts _ kw_306) (by decide +kernel) ⟨Nat.le_of_ble_eq_true rfl, Nat.le_of_ble_eq_true rfl⟩, (hts _ kw_307)⟩ ⟨fun a U g mk q => by obtain ⟨q0, qP, qK⟩ := q; exact ⟨q0, qP, qK.call⟩, fun U hU hW => ⟨rfl, by rw [hU]; exact hP.sub [] rfl, hKN.warm hW⟩⟩ rfl rfl hl.1 rfl (lv_room (Nat.le_of_ble_eq_true rfl)) d_TS_boot_13 ⟨Nat.zero_le _, Nat.zero_le _⟩) ?_
  rcases trl_or (ety M) with ⟨ht1, ht0⟩ | ⟨ht1, ht0⟩ | ⟨ht1, ht0⟩
  · refine tp ht1 ?_
    refine lv_istore_n (lv' := [(2, .int (-1)), (1, .int (ety M)), (0, .ref ht)]) hx hb d_TS_boot_16 rfl hl (by decide) rfl (fun ls hl => ?_)
    refine lv_iload_n hx hb d_TS_boot_17 rfl (lv_at hl 0 rfl) ?_
    refine lv_iconst (v := (-1)) hx hb d_TS_boot_18 (by decide) ?_
    refine lv_icmp_eq (tgt := 63) hx hb d_TS_boot_19 (by decide) (fun h_2 => ?_) (fun h_2 => ?_)
    · refine lv_aload_n hx hb d_TS_boot_63 rfl (lv_at hl 2 rfl) ?_
      have hPc := hP.sub (ws' := [(ht, .inr (0, [.ref hm, .ref hs, .ref hp, .int (nI cn), .int (-1), .int (bI false), .ref he, .int (nI 0), .int (nI 0)])), (hm, .inr (1, [.int sc, .ref hn, .int (nI nk)])), (hn, .inl (cI, 16, .inl nd)), (hs, .inr (2, [.ref hw, .int (nI bl), .int dn, .int lf])), (hw, .inl (cI, 40, .inl M)), (he, .inl (cI, 3, .inl en))]) [0, 1, 2, 3, 4, 5] rfl
      have hDc := hD.sub (ws' := [(ht, .inr (0, [.ref hm, .ref hs, .ref hp, .int (nI cn), .int (-1), .int (bI false), .ref he, .int (nI 0), .int (nI 0)])), (hm, .inr (1, [.int sc, .ref hn, .int (nI nk)])), (hn, .inl (cI, 16, .inl nd)), (hs, .inr (2, [.ref hw, .int (nI bl), .int dn, .int lf])), (hw, .inl (cI, 40, .inl M)), (he, .inl (cI, 3, .inl en))]) [0, 1, 2, 3, 4, 5] (by decide) rfl
      have hFc := va_free (wc := [(ht, .inr (0, [.ref hm, .ref hs, .ref hp, .int (nI cn), .int (-1), .int (bI false), .ref he, .int (nI 0), .int (nI 0)])), (hm, .inr (1, [.int sc, .ref hn, .int (nI nk)])), (hn, .inl (cI, 16, .inl nd)), (hs, .inr (2, [.ref hw, .int (nI bl), .int dn, .int lf])), (hw, .inl (cI, 40, .inl M)), (he, .inl (cI, 3, .inl en))]) hD hS hA [0, 1, 2, 3, 4, 5] rfl
      refine va_calli (va_runV (As := []) (rest := []) ⟨hx, hb, hml, hown, hts⟩ (c_TS_startConfirmed l dC dI cI (ht := ht) (hm := hm) (hs := hs) (hp := hp) (cn := cn) (rn := (-1)) (tr := false) (he := he) (ec := 0) (me := (nI 0)) (sc := sc) (hn := hn) (nk := nk) (nd := nd) (hw := hw) (bl := bl) (dn := dn) (lf := lf) (M := M) (en := en) (hbl := (by omega)) (sz := H.size)) ⟨callB_of 0 hts (gd kw_332) rfl rfl rfl (hts _ kw_35) (hts _ kw_329) (by decide +kernel) ⟨Nat.le_of_ble_eq_true rfl, Nat.le_of_ble_eq_true rfl⟩, (hts _ kw_331), (hts _ kw_14)⟩ ⟨fun a U g mk q => by obtain ⟨q0, q1, qP, qK, qD⟩ := q; exact ⟨q0, q1, qP, qK.call, qD⟩, va_recv hK hP (ci := 0) rfl (q0 := 0) rfl, fun U hU hW => ⟨rfl, by rw [hU], by rw [hU]; exact hPc, hKN.warm hW, hDc.weaken (fun _ _ _ _ => trivial)⟩⟩ rfl rfl hl.1 rfl (lv_room (Nat.le_of_ble_eq_true rfl)) d_TS_boot_64 ⟨Nat.zero_le _, Nat.zero_le _⟩) hS (fun q _ h => hFc q h) hFc (fun r u t H1 locs zt zvm zw zB zz zk hS => ?_)
      obtain ⟨rn_3, tr_3, en_3, ec_3, me_3, bl_3, dn_3, lf_3⟩ := u
      obtain ⟨r_3, rfl⟩ : ∃ z, z = r := ⟨_, rfl⟩
      have hu_3 := zw
      obtain ⟨hP1, hD1⟩ := zB
      rw [zt] at hP1
      have hP1 : va_P (dC, dI) classes [(ht, .inr (0, [.ref hm, .ref hs, .ref hp, .int (nI cn), .int rn_3, .int (bI tr_3), .ref he, .int (nI ec_3), .int me_3])), (hm, .inr (1, [.int sc, .ref hn, .int (nI nk)])), (hn, .inl (cI, 16, .inl nd)), (hs, .inr (2, [.ref hw, .int (nI bl_3), .int dn_3, .int lf_3])), (hw, .inl (cI, 40, .inl M)), (he, .inl (cI, 3, .inl en_3))] H1 := hP1
      obtain ⟨hP, hD⟩ := va_join (wc := [(ht, .inr (0, [.ref hm, .ref hs, .ref hp, .int (nI cn), .int (-1), .int (bI false), .ref he, .int (nI 0), .int (nI 0)])), (hm, .inr (1, [.int sc, .ref hn, .int (nI nk)])), (hn, .inl (cI, 16, .inl nd)), (hs, .inr (2, [.ref hw, .int (nI bl), .int dn, .int lf])), (hw, .inl (cI, 40, .inl M)), (he, .inl (cI, 3, .inl en))]) (wr := []) (w1 := [(ht, .inr (0, [.ref hm, .ref hs, .ref hp, .int (nI cn), .int rn_3, .int (bI tr_3), .ref he, .int (nI ec_3), .int me_3])), (hm, .inr (1, [.int sc, .ref hn, .int (nI nk)])), (hn, .inl (cI, 16, .inl nd)), (hs, .inr (2, [.ref hw, .int (nI bl_3), .int dn_3, .int lf_3])), (hw, .inl (cI, 40, .inl M)), (he, .inl (cI, 3, .inl en_3))]) hP hD [0, 1, 2, 3, 4, 5] [] rfl rfl (by decide) (by decide) zk hFc hP1 hD1
      generalize H1 = H at hP hS ⊢
      have hP : va_P (dC, dI) classes [(ht, .inr (0, [.ref hm, .ref hs, .ref hp, .int (nI cn), .int rn_3, .int (bI tr_3), .ref he, .int (nI ec_3), .int me_3])), (hm, .inr (1, [.int sc, .ref hn, .int (nI nk)])), (hn, .inl (cI, 16, .inl nd)), (hs, .inr (2, [.ref hw, .int (nI bl_3), .int dn_3, .int lf_3])), (hw, .inl (cI, 40, .inl M)), (he, .inl (cI, 3, .inl en_3))] H := hP.sub [0, 1, 2, 3, 4, 5] rfl
      have hD : va_D A [(ht, .inr (0, [.ref hm, .ref hs, .ref hp, .int (nI cn), .int rn_3, .int (bI tr_3), .ref he, .int (nI ec_3), .int me_3])), (hm, .inr (1, [.int sc, .ref hn, .int (nI nk)])), (hn, .inl (cI, 16, .inl nd)), (hs, .inr (2, [.ref hw, .int (nI bl_3), .int dn_3, .int lf_3])), (hw, .inl (cI, 40, .inl M)), (he, .inl (cI, 3, .inl en_3))] := hD.sub [0, 1, 2, 3, 4, 5] (by decide) rfl
      clear hPc hDc hFc hP1 hD1 zk zz zvm zt
      exact W.iret (v := r_3) hx hb hr (fun t ht hW => ⟨⟨r_3, (rn_3, tr_3, en_3, ec_3, me_3, M, bl_3, dn_3, lf_3), rfl, (by simp only [btC, scB, ht0, hu_3, eq_self, reduceCtorEq, if_true, if_false, Nat.reduceSub]), by rw [ht]; exact hP, hD⟩, hS.F ht⟩) hS.2.2 d_TS_boot_67
    · exact absurd h_2 (by decide)
  · refine tp ht1 ?_
    refine lv_istore_n (lv' := [(2, .int (nI 0)), (1, .int (ety M)), (0, .ref ht)]) hx hb d_TS_boot_16 rfl hl (by decide) rfl (fun ls hl => ?_)
    refine lv_iload_n hx hb d_TS_boot_17 rfl (lv_at hl 0 rfl) ?_
    refine lv_iconst (v := (-1)) hx hb d_TS_boot_18 (by decide) ?_
    refine lv_icmp_eq (tgt := 63) hx hb d_TS_boot_19 (by decide) (fun h_4 => ?_) (fun h_4 => ?_)
    · exact absurd h_4 (by decide)
    · refine lv_aload_n hx hb d_TS_boot_22 rfl (lv_at hl 2 rfl) ?_
      refine va_get (D := (dC, dI)) (ci := 0) (v := .ref hs) (C := R_TS) (T := F_TS) (N := 9) hx hb hts in_TS hown hK hP 0 rfl rfl 1 (by decide) (hts _ kw_143) (fun _ h9 => h9) rfl d_TS_boot_23 ?_
      refine lv_iload_n hx hb d_TS_boot_26 rfl (lv_at hl 1 rfl) ?_
      refine lv_iload_n hx hb d_TS_boot_27 rfl (lv_at hl 0 rfl) ?_
      refine lv_iconst (v := (nI 1)) hx hb d_TS_boot_28 (by decide) ?_
      refine pr_call (va_runS (As := [.int (ety M), .int (nI 0), .int (nI 1)]) (rest := [.ref hs]) ⟨hx, hb, hml, hown, hts⟩ (c_Tb_withState l dC dI cI (en := ety M) (k := 0) (v := 1) ) ⟨callB_of 3 hts (gd kw_264) rfl rfl rfl (hts _ kw_42) (hts _ kw_262) (by decide +kernel) ⟨Nat.le_of_ble_eq_true rfl, Nat.le_of_ble_eq_true rfl⟩, (hts _ kw_263)⟩ ⟨fun a U g mk q => by obtain ⟨q0, qP, qK⟩ := q; exact ⟨q0, qP, qK.call⟩, fun U hU hW => ⟨rfl, by rw [hU]; exact hP.sub [] rfl, hKN.warm hW⟩⟩ rfl rfl hl.1 rfl (lv_room (Nat.le_of_ble_eq_true rfl)) d_TS_boot_29 ⟨Nat.zero_le _, Nat.zero_le _⟩) ?_
      have hPc := hP.sub (ws' := [(hs, .inr (2, [.ref hw, .int (nI bl), .int dn, .int lf])), (hw, .inl (cI, 40, .inl M))]) [3, 4] rfl
      have hDc := hD.sub (ws' := [(hs, .inr (2, [.ref hw, .int (nI bl), .int dn, .int lf])), (hw, .inl (cI, 40, .inl M))]) [3, 4] (by decide) rfl
      have hFc := va_free (wc := [(hs, .inr (2, [.ref hw, .int (nI bl), .int dn, .int lf])), (hw, .inl (cI, 40, .inl M))]) hD hS hA [3, 4] rfl
      refine va_calli (va_runV (As := [.int (wst (ety M) 0 1)]) (rest := []) ⟨hx, hb, hml, hown, hts⟩ (c_St_writeTable l dC dI cI (hs := hs) (en := wst (ety M) 0 1) (hw := hw) (bl := bl) (dn := dn) (lf := lf) (M := M)  (sz := H.size)) ⟨callB_of 1 hts (gd kw_274) rfl rfl rfl (hts _ kw_39) (hts _ kw_271) (by decide +kernel) ⟨Nat.le_of_ble_eq_true rfl, Nat.le_of_ble_eq_true rfl⟩, (hts _ kw_272), (hts _ kw_273)⟩ ⟨fun a U g mk q => by obtain ⟨q0, q1, qP, qK, qD⟩ := q; exact ⟨q0, q1, qP, qK.call, qD⟩, va_recv hK hP (ci := 2) rfl (q0 := 3) rfl, fun U hU hW => ⟨rfl, by rw [hU], by rw [hU]; exact hPc, hKN.warm hW, hDc.weaken (fun _ _ _ _ => trivial)⟩⟩ rfl rfl hl.1 rfl (lv_room (Nat.le_of_ble_eq_true rfl)) d_TS_boot_32 ⟨Nat.zero_le _, Nat.zero_le _⟩) hS (fun q _ h => hFc q h) hFc (fun r u t H1 locs zt zvm zw zB zz zk hS => ?_)
      obtain ⟨M_5, dn_5, lf_5⟩ := u
      obtain ⟨b_5, rfl, hu_5⟩ := zw
      obtain ⟨hP1, hD1⟩ := zB
      rw [zt] at hP1
      have hP1 : va_P (dC, dI) classes [(hs, .inr (2, [.ref hw, .int (nI bl), .int dn_5, .int lf_5])), (hw, .inl (cI, 40, .inl M_5))] H1 := hP1
      obtain ⟨hP, hD⟩ := va_join (wc := [(hs, .inr (2, [.ref hw, .int (nI bl), .int dn, .int lf])), (hw, .inl (cI, 40, .inl M))]) (wr := [(ht, .inr (0, [.ref hm, .ref hs, .ref hp, .int (nI cn), .int (-1), .int (bI false), .ref he, .int (nI 0), .int (nI 0)])), (hm, .inr (1, [.int sc, .ref hn, .int (nI nk)])), (hn, .inl (cI, 16, .inl nd)), (he, .inl (cI, 3, .inl en))]) (w1 := [(hs, .inr (2, [.ref hw, .int (nI bl), .int dn_5, .int lf_5])), (hw, .inl (cI, 40, .inl M_5))]) hP hD [3, 4] [0, 1, 2, 5] rfl rfl (by decide) (by decide) zk hFc hP1 hD1
      generalize H1 = H at hP hS ⊢
      have hP : va_P (dC, dI) classes [(ht, .inr (0, [.ref hm, .ref hs, .ref hp, .int (nI cn), .int (-1), .int (bI false), .ref he, .int (nI 0), .int (nI 0)])), (hm, .inr (1, [.int sc, .ref hn, .int (nI nk)])), (hn, .inl (cI, 16, .inl nd)), (hs, .inr (2, [.ref hw, .int (nI bl), .int dn_5, .int lf_5])), (hw, .inl (cI, 40, .inl M_5)), (he, .inl (cI, 3, .inl en))] H := hP.sub [0, 1, 2, 4, 5, 3] rfl
      have hD : va_D A [(ht, .inr (0, [.ref hm, .ref hs, .ref hp, .int (nI cn), .int (-1), .int (bI false), .ref he, .int (nI 0), .int (nI 0)])), (hm, .inr (1, [.int sc, .ref hn, .int (nI nk)])), (hn, .inl (cI, 16, .inl nd)), (hs, .inr (2, [.ref hw, .int (nI bl), .int dn_5, .int lf_5])), (hw, .inl (cI, 40, .inl M_5)), (he, .inl (cI, 3, .inl en))] := hD.sub [0, 1, 2, 4, 5, 3] (by decide) rfl
      clear hPc hDc hFc hP1 hD1 zk zz zvm zt
      refine bz_ne (tgt := 43) hx hb d_TS_boot_35 (by decide) (fun h_6 => ?_) (fun h_6 => ?_)
      · subst h_6
        refine lv_aload_n hx hb d_TS_boot_43 rfl (lv_at hl 2 rfl) ?_
        refine lv_iload_n hx hb d_TS_boot_44 rfl (lv_at hl 0 rfl) ?_
        have hPc := hP.sub (ws' := [(ht, .inr (0, [.ref hm, .ref hs, .ref hp, .int (nI cn), .int (-1), .int (bI false), .ref he, .int (nI 0), .int (nI 0)])), (hm, .inr (1, [.int sc, .ref hn, .int (nI nk)])), (hn, .inl (cI, 16, .inl nd)), (hs, .inr (2, [.ref hw, .int (nI bl), .int dn_5, .int lf_5])), (hw, .inl (cI, 40, .inl M_5)), (he, .inl (cI, 3, .inl en))]) [0, 1, 2, 3, 4, 5] rfl
        have hDc := hD.sub (ws' := [(ht, .inr (0, [.ref hm, .ref hs, .ref hp, .int (nI cn), .int (-1), .int (bI false), .ref he, .int (nI 0), .int (nI 0)])), (hm, .inr (1, [.int sc, .ref hn, .int (nI nk)])), (hn, .inl (cI, 16, .inl nd)), (hs, .inr (2, [.ref hw, .int (nI bl), .int dn_5, .int lf_5])), (hw, .inl (cI, 40, .inl M_5)), (he, .inl (cI, 3, .inl en))]) [0, 1, 2, 3, 4, 5] (by decide) rfl
        have hFc := va_free (wc := [(ht, .inr (0, [.ref hm, .ref hs, .ref hp, .int (nI cn), .int (-1), .int (bI false), .ref he, .int (nI 0), .int (nI 0)])), (hm, .inr (1, [.int sc, .ref hn, .int (nI nk)])), (hn, .inl (cI, 16, .inl nd)), (hs, .inr (2, [.ref hw, .int (nI bl), .int dn_5, .int lf_5])), (hw, .inl (cI, 40, .inl M_5)), (he, .inl (cI, 3, .inl en))]) hD hS hA [0, 1, 2, 3, 4, 5] rfl
        refine va_calli (va_runV (As := [.int (nI 0)]) (rest := []) ⟨hx, hb, hml, hown, hts⟩ (c_TS_attempt l dC dI cI (ht := ht) (k := 0) (hm := hm) (hs := hs) (hp := hp) (cn := cn) (rn := (-1)) (tr := false) (he := he) (ec := 0) (me := (nI 0)) (sc := sc) (hn := hn) (nk := nk) (nd := nd) (hw := hw) (bl := bl) (dn := dn_5) (lf := lf_5) (M := M_5) (en := en) (hk := (by omega)) (hbl := (by omega)) (sz := H.size)) ⟨callB_of 1 hts (gd kw_316) rfl rfl rfl (hts _ kw_35) (hts _ kw_313) (by decide +kernel) ⟨Nat.le_of_ble_eq_true rfl, Nat.le_of_ble_eq_true rfl⟩, (hts _ kw_315), (hts _ kw_12)⟩ ⟨fun a U g mk q => by obtain ⟨q0, q1, qP, qK, qD⟩ := q; exact ⟨q0, q1, qP, qK.call, qD⟩, va_recv hK hP (ci := 0) rfl (q0 := 0) rfl, fun U hU hW => ⟨rfl, by rw [hU], by rw [hU]; exact hPc, hKN.warm hW, hDc.weaken (fun _ _ _ _ => trivial)⟩⟩ rfl rfl hl.1 rfl (lv_room (Nat.le_of_ble_eq_true rfl)) d_TS_boot_45 ⟨Nat.zero_le _, Nat.zero_le _⟩) hS (fun q _ h => hFc q h) hFc (fun r u t H1 locs zt zvm zw zB zz zk hS => ?_)
        obtain ⟨en_7, ec_7, me_7⟩ := u
        obtain ⟨b_7, rfl, hu_7⟩ := zw
        obtain ⟨hP1, hD1⟩ := zB
        rw [zt] at hP1
        have hP1 : va_P (dC, dI) classes [(ht, .inr (0, [.ref hm, .ref hs, .ref hp, .int (nI cn), .int (-1), .int (bI false), .ref he, .int (nI ec_7), .int me_7])), (hm, .inr (1, [.int sc, .ref hn, .int (nI nk)])), (hn, .inl (cI, 16, .inl nd)), (hs, .inr (2, [.ref hw, .int (nI bl), .int dn_5, .int lf_5])), (hw, .inl (cI, 40, .inl M_5)), (he, .inl (cI, 3, .inl en_7))] H1 := hP1
        obtain ⟨hP, hD⟩ := va_join (wc := [(ht, .inr (0, [.ref hm, .ref hs, .ref hp, .int (nI cn), .int (-1), .int (bI false), .ref he, .int (nI 0), .int (nI 0)])), (hm, .inr (1, [.int sc, .ref hn, .int (nI nk)])), (hn, .inl (cI, 16, .inl nd)), (hs, .inr (2, [.ref hw, .int (nI bl), .int dn_5, .int lf_5])), (hw, .inl (cI, 40, .inl M_5)), (he, .inl (cI, 3, .inl en))]) (wr := []) (w1 := [(ht, .inr (0, [.ref hm, .ref hs, .ref hp, .int (nI cn), .int (-1), .int (bI false), .ref he, .int (nI ec_7), .int me_7])), (hm, .inr (1, [.int sc, .ref hn, .int (nI nk)])), (hn, .inl (cI, 16, .inl nd)), (hs, .inr (2, [.ref hw, .int (nI bl), .int dn_5, .int lf_5])), (hw, .inl (cI, 40, .inl M_5)), (he, .inl (cI, 3, .inl en_7))]) hP hD [0, 1, 2, 3, 4, 5] [] rfl rfl (by decide) (by decide) zk hFc hP1 hD1
        generalize H1 = H at hP hS ⊢
        have hP : va_P (dC, dI) classes [(ht, .inr (0, [.ref hm, .ref hs, .ref hp, .int (nI cn), .int (-1), .int (bI false), .ref he, .int (nI ec_7), .int me_7])), (hm, .inr (1, [.int sc, .ref hn, .int (nI nk)])), (hn, .inl (cI, 16, .inl nd)), (hs, .inr (2, [.ref hw, .int (nI bl), .int dn_5, .int lf_5])), (hw, .inl (cI, 40, .inl M_5)), (he, .inl (cI, 3, .inl en_7))] H := hP.sub [0, 1, 2, 3, 4, 5] rfl
        have hD : va_D A [(ht, .inr (0, [.ref hm, .ref hs, .ref hp, .int (nI cn), .int (-1), .int (bI false), .ref he, .int (nI ec_7), .int me_7])), (hm, .inr (1, [.int sc, .ref hn, .int (nI nk)])), (hn, .inl (cI, 16, .inl nd)), (hs, .inr (2, [.ref hw, .int (nI bl), .int dn_5, .int lf_5])), (hw, .inl (cI, 40, .inl M_5)), (he, .inl (cI, 3, .inl en_7))] := hD.sub [0, 1, 2, 3, 4, 5] (by decide) rfl
        clear hPc hDc hFc hP1 hD1 zk zz zvm zt
        refine bz_eq (tgt := 63) hx hb d_TS_boot_48 (by decide) (fun h_8 => ?_) (fun h_8 => ?_)
        · subst h_8
          refine lv_aload_n hx hb d_TS_boot_63 rfl (lv_at hl 2 rfl) ?_
          have hPc := hP.sub (ws' := [(ht, .inr (0, [.ref hm, .ref hs, .ref hp, .int (nI cn), .int (-1), .int (bI false), .ref he, .int (nI ec_7), .int me_7])), (hm, .inr (1, [.int sc, .ref hn, .int (nI nk)])), (hn, .inl (cI, 16, .inl nd)), (hs, .inr (2, [.ref hw, .int (nI bl), .int dn_5, .int lf_5])), (hw, .inl (cI, 40, .inl M_5)), (he, .inl (cI, 3, .inl en_7))]) [0, 1, 2, 3, 4, 5] rfl
          have hDc := hD.sub (ws' := [(ht, .inr (0, [.ref hm, .ref hs, .ref hp, .int (nI cn), .int (-1), .int (bI false), .ref he, .int (nI ec_7), .int me_7])), (hm, .inr (1, [.int sc, .ref hn, .int (nI nk)])), (hn, .inl (cI, 16, .inl nd)), (hs, .inr (2, [.ref hw, .int (nI bl), .int dn_5, .int lf_5])), (hw, .inl (cI, 40, .inl M_5)), (he, .inl (cI, 3, .inl en_7))]) [0, 1, 2, 3, 4, 5] (by decide) rfl
          have hFc := va_free (wc := [(ht, .inr (0, [.ref hm, .ref hs, .ref hp, .int (nI cn), .int (-1), .int (bI false), .ref he, .int (nI ec_7), .int me_7])), (hm, .inr (1, [.int sc, .ref hn, .int (nI nk)])), (hn, .inl (cI, 16, .inl nd)), (hs, .inr (2, [.ref hw, .int (nI bl), .int dn_5, .int lf_5])), (hw, .inl (cI, 40, .inl M_5)), (he, .inl (cI, 3, .inl en_7))]) hD hS hA [0, 1, 2, 3, 4, 5] rfl
          refine va_calli (va_runV (As := []) (rest := []) ⟨hx, hb, hml, hown, hts⟩ (c_TS_startConfirmed l dC dI cI (ht := ht) (hm := hm) (hs := hs) (hp := hp) (cn := cn) (rn := (-1)) (tr := false) (he := he) (ec := ec_7) (me := me_7) (sc := sc) (hn := hn) (nk := nk) (nd := nd) (hw := hw) (bl := bl) (dn := dn_5) (lf := lf_5) (M := M_5) (en := en_7) (hbl := (by omega)) (sz := H.size)) ⟨callB_of 0 hts (gd kw_332) rfl rfl rfl (hts _ kw_35) (hts _ kw_329) (by decide +kernel) ⟨Nat.le_of_ble_eq_true rfl, Nat.le_of_ble_eq_true rfl⟩, (hts _ kw_331), (hts _ kw_14)⟩ ⟨fun a U g mk q => by obtain ⟨q0, q1, qP, qK, qD⟩ := q; exact ⟨q0, q1, qP, qK.call, qD⟩, va_recv hK hP (ci := 0) rfl (q0 := 0) rfl, fun U hU hW => ⟨rfl, by rw [hU], by rw [hU]; exact hPc, hKN.warm hW, hDc.weaken (fun _ _ _ _ => trivial)⟩⟩ rfl rfl hl.1 rfl (lv_room (Nat.le_of_ble_eq_true rfl)) d_TS_boot_64 ⟨Nat.zero_le _, Nat.zero_le _⟩) hS (fun q _ h => hFc q h) hFc (fun r u t H1 locs zt zvm zw zB zz zk hS => ?_)
          obtain ⟨rn_9, tr_9, en_9, ec_9, me_9, bl_9, dn_9, lf_9⟩ := u
          obtain ⟨r_9, rfl⟩ : ∃ z, z = r := ⟨_, rfl⟩
          have hu_9 := zw
          obtain ⟨hP1, hD1⟩ := zB
          rw [zt] at hP1
          have hP1 : va_P (dC, dI) classes [(ht, .inr (0, [.ref hm, .ref hs, .ref hp, .int (nI cn), .int rn_9, .int (bI tr_9), .ref he, .int (nI ec_9), .int me_9])), (hm, .inr (1, [.int sc, .ref hn, .int (nI nk)])), (hn, .inl (cI, 16, .inl nd)), (hs, .inr (2, [.ref hw, .int (nI bl_9), .int dn_9, .int lf_9])), (hw, .inl (cI, 40, .inl M_5)), (he, .inl (cI, 3, .inl en_9))] H1 := hP1
          obtain ⟨hP, hD⟩ := va_join (wc := [(ht, .inr (0, [.ref hm, .ref hs, .ref hp, .int (nI cn), .int (-1), .int (bI false), .ref he, .int (nI ec_7), .int me_7])), (hm, .inr (1, [.int sc, .ref hn, .int (nI nk)])), (hn, .inl (cI, 16, .inl nd)), (hs, .inr (2, [.ref hw, .int (nI bl), .int dn_5, .int lf_5])), (hw, .inl (cI, 40, .inl M_5)), (he, .inl (cI, 3, .inl en_7))]) (wr := []) (w1 := [(ht, .inr (0, [.ref hm, .ref hs, .ref hp, .int (nI cn), .int rn_9, .int (bI tr_9), .ref he, .int (nI ec_9), .int me_9])), (hm, .inr (1, [.int sc, .ref hn, .int (nI nk)])), (hn, .inl (cI, 16, .inl nd)), (hs, .inr (2, [.ref hw, .int (nI bl_9), .int dn_9, .int lf_9])), (hw, .inl (cI, 40, .inl M_5)), (he, .inl (cI, 3, .inl en_9))]) hP hD [0, 1, 2, 3, 4, 5] [] rfl rfl (by decide) (by decide) zk hFc hP1 hD1
          generalize H1 = H at hP hS ⊢
          have hP : va_P (dC, dI) classes [(ht, .inr (0, [.ref hm, .ref hs, .ref hp, .int (nI cn), .int rn_9, .int (bI tr_9), .ref he, .int (nI ec_9), .int me_9])), (hm, .inr (1, [.int sc, .ref hn, .int (nI nk)])), (hn, .inl (cI, 16, .inl nd)), (hs, .inr (2, [.ref hw, .int (nI bl_9), .int dn_9, .int lf_9])), (hw, .inl (cI, 40, .inl M_5)), (he, .inl (cI, 3, .inl en_9))] H := hP.sub [0, 1, 2, 3, 4, 5] rfl
          have hD : va_D A [(ht, .inr (0, [.ref hm, .ref hs, .ref hp, .int (nI cn), .int rn_9, .int (bI tr_9), .ref he, .int (nI ec_9), .int me_9])), (hm, .inr (1, [.int sc, .ref hn, .int (nI nk)])), (hn, .inl (cI, 16, .inl nd)), (hs, .inr (2, [.ref hw, .int (nI bl_9), .int dn_9, .int lf_9])), (hw, .inl (cI, 40, .inl M_5)), (he, .inl (cI, 3, .inl en_9))] := hD.sub [0, 1, 2, 3, 4, 5] (by decide) rfl
          clear hPc hDc hFc hP1 hD1 zk zz zvm zt
          exact W.iret (v := r_9) hx hb hr (fun t ht hW => ⟨⟨r_9, (rn_9, tr_9, en_9, ec_9, me_9, M_5, bl_9, dn_9, lf_9), rfl, (by simp only [btC, scB, ht0, hu_5, hu_7, hu_9, eq_self, reduceCtorEq, if_true, if_false, Nat.reduceSub]), by rw [ht]; exact hP, hD⟩, hS.F ht⟩) hS.2.2 d_TS_boot_67
        · subst h_8
          refine lv_aload_n hx hb d_TS_boot_51 rfl (lv_at hl 2 rfl) ?_
          refine lv_iload_n hx hb d_TS_boot_52 rfl (lv_at hl 0 rfl) ?_
          refine va_put (D := (dC, dI)) (ci := 0) (v := .int (nI 0)) (ty := .int) (C := R_TS) (T := F_TS) (N := 9) hx hb hts in_TS t_TS t_TS_ok n_TS hown hK hP hD hS 0 rfl rfl 4 (by decide) (hts _ kw_146) (fun _ h9 => h9) rfl (by decide +kernel) rfl rfl (Nat.le_of_ble_eq_true rfl) d_TS_boot_53 (fun H locs hP hD hS => ?_)
          have hP : va_P (dC, dI) classes [(ht, .inr (0, [.ref hm, .ref hs, .ref hp, .int (nI cn), .int (nI 0), .int (bI false), .ref he, .int (nI ec_7), .int me_7])), (hm, .inr (1, [.int sc, .ref hn, .int (nI nk)])), (hn, .inl (cI, 16, .inl nd)), (hs, .inr (2, [.ref hw, .int (nI bl), .int dn_5, .int lf_5])), (hw, .inl (cI, 40, .inl M_5)), (he, .inl (cI, 3, .inl en_7))] H := hP
          have hD : va_D A [(ht, .inr (0, [.ref hm, .ref hs, .ref hp, .int (nI cn), .int (nI 0), .int (bI false), .ref he, .int (nI ec_7), .int me_7])), (hm, .inr (1, [.int sc, .ref hn, .int (nI nk)])), (hn, .inl (cI, 16, .inl nd)), (hs, .inr (2, [.ref hw, .int (nI bl), .int dn_5, .int lf_5])), (hw, .inl (cI, 40, .inl M_5)), (he, .inl (cI, 3, .inl en_7))] := hD
          refine lv_aload_n hx hb d_TS_boot_56 rfl (lv_at hl 2 rfl) ?_
          refine lv_iconst (v := (nI 1)) hx hb d_TS_boot_57 (by decide) ?_
          refine va_put (D := (dC, dI)) (ci := 0) (v := .int (bI true)) (ty := .boolean) (C := R_TS) (T := F_TS) (N := 9) hx hb hts in_TS t_TS t_TS_ok n_TS hown hK hP hD hS 0 rfl rfl 5 (by decide) (hts _ kw_147) (fun _ h9 => h9) rfl (by decide +kernel) (bI_narrow _) (bI_fits _) (Nat.le_of_ble_eq_true rfl) d_TS_boot_58 (fun H locs hP hD hS => ?_)
          have hP : va_P (dC, dI) classes [(ht, .inr (0, [.ref hm, .ref hs, .ref hp, .int (nI cn), .int (nI 0), .int (bI true), .ref he, .int (nI ec_7), .int me_7])), (hm, .inr (1, [.int sc, .ref hn, .int (nI nk)])), (hn, .inl (cI, 16, .inl nd)), (hs, .inr (2, [.ref hw, .int (nI bl), .int dn_5, .int lf_5])), (hw, .inl (cI, 40, .inl M_5)), (he, .inl (cI, 3, .inl en_7))] H := hP
          have hD : va_D A [(ht, .inr (0, [.ref hm, .ref hs, .ref hp, .int (nI cn), .int (nI 0), .int (bI true), .ref he, .int (nI ec_7), .int me_7])), (hm, .inr (1, [.int sc, .ref hn, .int (nI nk)])), (hn, .inl (cI, 16, .inl nd)), (hs, .inr (2, [.ref hw, .int (nI bl), .int dn_5, .int lf_5])), (hw, .inl (cI, 40, .inl M_5)), (he, .inl (cI, 3, .inl en_7))] := hD
          refine lv_iload_n hx hb d_TS_boot_61 rfl (lv_at hl 0 rfl) ?_
          exact W.iret (v := (nI 0)) hx hb hr (fun t ht hW => ⟨⟨(nI 0), ((nI 0), true, en_7, ec_7, me_7, M_5, bl, dn_5, lf_5), rfl, (by simp only [btC, scB, ht0, hu_5, hu_7, eq_self, reduceCtorEq, if_true, if_false, Nat.reduceSub]), by rw [ht]; exact hP, hD⟩, hS.F ht⟩) hS.2.2 d_TS_boot_62
      · subst h_6
        refine lv_aload_n hx hb d_TS_boot_38 rfl (lv_at hl 2 rfl) ?_
        have hPc := hP.sub (ws' := [(ht, .inr (0, [.ref hm, .ref hs, .ref hp, .int (nI cn), .int (-1), .int (bI false), .ref he, .int (nI 0), .int (nI 0)]))]) [0] rfl
        have hDc := hD.sub (ws' := [(ht, .inr (0, [.ref hm, .ref hs, .ref hp, .int (nI cn), .int (-1), .int (bI false), .ref he, .int (nI 0), .int (nI 0)]))]) [0] (by decide) rfl
        have hFc := va_free (wc := [(ht, .inr (0, [.ref hm, .ref hs, .ref hp, .int (nI cn), .int (-1), .int (bI false), .ref he, .int (nI 0), .int (nI 0)]))]) hD hS hA [0] rfl
        refine va_calli (va_runV (As := []) (rest := []) ⟨hx, hb, hml, hown, hts⟩ (c_TS_powerLost l dC dI cI (ht := ht) (hm := hm) (hs := hs) (hp := hp) (cn := cn) (rn := (-1)) (tr := false) (he := he) (ec := 0) (me := (nI 0))  (sz := H.size)) ⟨callB_of 0 hts (gd kw_293) rfl rfl rfl (hts _ kw_35) (hts _ kw_290) (by decide +kernel) ⟨Nat.le_of_ble_eq_true rfl, Nat.le_of_ble_eq_true rfl⟩, (hts _ kw_292), (hts _ kw_9)⟩ ⟨fun a U g mk q => by obtain ⟨q0, q1, qP, qK, qD⟩ := q; exact ⟨q0, q1, qP, qK.call, qD⟩, va_recv hK hP (ci := 0) rfl (q0 := 0) rfl, fun U hU hW => ⟨rfl, by rw [hU], by rw [hU]; exact hPc, hKN.warm hW, hDc.weaken (fun _ _ _ _ => trivial)⟩⟩ rfl rfl hl.1 rfl (lv_room (Nat.le_of_ble_eq_true rfl)) d_TS_boot_39 ⟨Nat.zero_le _, Nat.zero_le _⟩) hS (fun q _ h => hFc q h) hFc (fun r u t H1 locs zt zvm zw zB zz zk hS => ?_)
        obtain ⟨rn_10, tr_10, ec_10, me_10⟩ := u
        obtain ⟨r_10, rfl⟩ : ∃ z, z = r := ⟨_, rfl⟩
        have hu_10 := zw
        simp only [Prod.mk.injEq] at hu_10
        obtain ⟨rfl, rfl, rfl, rfl, rfl⟩ := hu_10
        obtain ⟨hP1, hD1⟩ := zB
        rw [zt] at hP1
        have hP1 : va_P (dC, dI) classes [(ht, .inr (0, [.ref hm, .ref hs, .ref hp, .int (nI cn), .int (-1), .int (bI false), .ref he, .int (nI 0), .int (nI 0)]))] H1 := hP1
        obtain ⟨hP, hD⟩ := va_join (wc := [(ht, .inr (0, [.ref hm, .ref hs, .ref hp, .int (nI cn), .int (-1), .int (bI false), .ref he, .int (nI 0), .int (nI 0)]))]) (wr := [(hm, .inr (1, [.int sc, .ref hn, .int (nI nk)])), (hn, .inl (cI, 16, .inl nd)), (hs, .inr (2, [.ref hw, .int (nI bl), .int dn_5, .int lf_5])), (hw, .inl (cI, 40, .inl M_5)), (he, .inl (cI, 3, .inl en))]) (w1 := [(ht, .inr (0, [.ref hm, .ref hs, .ref hp, .int (nI cn), .int (-1), .int (bI false), .ref he, .int (nI 0), .int (nI 0)]))]) hP hD [0] [1, 2, 3, 4, 5] rfl rfl (by decide) (by decide) zk hFc hP1 hD1
        generalize H1 = H at hP hS ⊢
        have hP : va_P (dC, dI) classes [(ht, .inr (0, [.ref hm, .ref hs, .ref hp, .int (nI cn), .int (-1), .int (bI false), .ref he, .int (nI 0), .int (nI 0)])), (hm, .inr (1, [.int sc, .ref hn, .int (nI nk)])), (hn, .inl (cI, 16, .inl nd)), (hs, .inr (2, [.ref hw, .int (nI bl), .int dn_5, .int lf_5])), (hw, .inl (cI, 40, .inl M_5)), (he, .inl (cI, 3, .inl en))] H := hP.sub [5, 0, 1, 2, 3, 4] rfl
        have hD : va_D A [(ht, .inr (0, [.ref hm, .ref hs, .ref hp, .int (nI cn), .int (-1), .int (bI false), .ref he, .int (nI 0), .int (nI 0)])), (hm, .inr (1, [.int sc, .ref hn, .int (nI nk)])), (hn, .inl (cI, 16, .inl nd)), (hs, .inr (2, [.ref hw, .int (nI bl), .int dn_5, .int lf_5])), (hw, .inl (cI, 40, .inl M_5)), (he, .inl (cI, 3, .inl en))] := hD.sub [5, 0, 1, 2, 3, 4] (by decide) rfl
        clear hPc hDc hFc hP1 hD1 zk zz zvm zt
        exact W.iret (v := (-1)) hx hb hr (fun t ht hW => ⟨⟨(-1), ((-1), false, en, 0, (nI 0), M_5, bl, dn_5, lf_5), rfl, (by simp only [btC, scB, ht0, hu_5, eq_self, reduceCtorEq, if_true, if_false, Nat.reduceSub]), by rw [ht]; exact hP, hD⟩, hS.F ht⟩) hS.2.2 d_TS_boot_42
  · refine tp ht1 ?_
    refine lv_istore_n (lv' := [(2, .int (nI 1)), (1, .int (ety M)), (0, .ref ht)]) hx hb d_TS_boot_16 rfl hl (by decide) rfl (fun ls hl => ?_)
    refine lv_iload_n hx hb d_TS_boot_17 rfl (lv_at hl 0 rfl) ?_
    refine lv_iconst (v := (-1)) hx hb d_TS_boot_18 (by decide) ?_
    refine lv_icmp_eq (tgt := 63) hx hb d_TS_boot_19 (by decide) (fun h_11 => ?_) (fun h_11 => ?_)
    · exact absurd h_11 (by decide)
    · refine lv_aload_n hx hb d_TS_boot_22 rfl (lv_at hl 2 rfl) ?_
      refine va_get (D := (dC, dI)) (ci := 0) (v := .ref hs) (C := R_TS) (T := F_TS) (N := 9) hx hb hts in_TS hown hK hP 0 rfl rfl 1 (by decide) (hts _ kw_143) (fun _ h9 => h9) rfl d_TS_boot_23 ?_
      refine lv_iload_n hx hb d_TS_boot_26 rfl (lv_at hl 1 rfl) ?_
      refine lv_iload_n hx hb d_TS_boot_27 rfl (lv_at hl 0 rfl) ?_
      refine lv_iconst (v := (nI 1)) hx hb d_TS_boot_28 (by decide) ?_
      refine pr_call (va_runS (As := [.int (ety M), .int (nI 1), .int (nI 1)]) (rest := [.ref hs]) ⟨hx, hb, hml, hown, hts⟩ (c_Tb_withState l dC dI cI (en := ety M) (k := 1) (v := 1) ) ⟨callB_of 3 hts (gd kw_264) rfl rfl rfl (hts _ kw_42) (hts _ kw_262) (by decide +kernel) ⟨Nat.le_of_ble_eq_true rfl, Nat.le_of_ble_eq_true rfl⟩, (hts _ kw_263)⟩ ⟨fun a U g mk q => by obtain ⟨q0, qP, qK⟩ := q; exact ⟨q0, qP, qK.call⟩, fun U hU hW => ⟨rfl, by rw [hU]; exact hP.sub [] rfl, hKN.warm hW⟩⟩ rfl rfl hl.1 rfl (lv_room (Nat.le_of_ble_eq_true rfl)) d_TS_boot_29 ⟨Nat.zero_le _, Nat.zero_le _⟩) ?_
      have hPc := hP.sub (ws' := [(hs, .inr (2, [.ref hw, .int (nI bl), .int dn, .int lf])), (hw, .inl (cI, 40, .inl M))]) [3, 4] rfl
      have hDc := hD.sub (ws' := [(hs, .inr (2, [.ref hw, .int (nI bl), .int dn, .int lf])), (hw, .inl (cI, 40, .inl M))]) [3, 4] (by decide) rfl
      have hFc := va_free (wc := [(hs, .inr (2, [.ref hw, .int (nI bl), .int dn, .int lf])), (hw, .inl (cI, 40, .inl M))]) hD hS hA [3, 4] rfl
      refine va_calli (va_runV (As := [.int (wst (ety M) 1 1)]) (rest := []) ⟨hx, hb, hml, hown, hts⟩ (c_St_writeTable l dC dI cI (hs := hs) (en := wst (ety M) 1 1) (hw := hw) (bl := bl) (dn := dn) (lf := lf) (M := M)  (sz := H.size)) ⟨callB_of 1 hts (gd kw_274) rfl rfl rfl (hts _ kw_39) (hts _ kw_271) (by decide +kernel) ⟨Nat.le_of_ble_eq_true rfl, Nat.le_of_ble_eq_true rfl⟩, (hts _ kw_272), (hts _ kw_273)⟩ ⟨fun a U g mk q => by obtain ⟨q0, q1, qP, qK, qD⟩ := q; exact ⟨q0, q1, qP, qK.call, qD⟩, va_recv hK hP (ci := 2) rfl (q0 := 3) rfl, fun U hU hW => ⟨rfl, by rw [hU], by rw [hU]; exact hPc, hKN.warm hW, hDc.weaken (fun _ _ _ _ => trivial)⟩⟩ rfl rfl hl.1 rfl (lv_room (Nat.le_of_ble_eq_true rfl)) d_TS_boot_32 ⟨Nat.zero_le _, Nat.zero_le _⟩) hS (fun q _ h => hFc q h) hFc (fun r u t H1 locs zt zvm zw zB zz zk hS => ?_)
      obtain ⟨M_12, dn_12, lf_12⟩ := u
      obtain ⟨b_12, rfl, hu_12⟩ := zw
      obtain ⟨hP1, hD1⟩ := zB
      rw [zt] at hP1
      have hP1 : va_P (dC, dI) classes [(hs, .inr (2, [.ref hw, .int (nI bl), .int dn_12, .int lf_12])), (hw, .inl (cI, 40, .inl M_12))] H1 := hP1
      obtain ⟨hP, hD⟩ := va_join (wc := [(hs, .inr (2, [.ref hw, .int (nI bl), .int dn, .int lf])), (hw, .inl (cI, 40, .inl M))]) (wr := [(ht, .inr (0, [.ref hm, .ref hs, .ref hp, .int (nI cn), .int (-1), .int (bI false), .ref he, .int (nI 0), .int (nI 0)])), (hm, .inr (1, [.int sc, .ref hn, .int (nI nk)])), (hn, .inl (cI, 16, .inl nd)), (he, .inl (cI, 3, .inl en))]) (w1 := [(hs, .inr (2, [.ref hw, .int (nI bl), .int dn_12, .int lf_12])), (hw, .inl (cI, 40, .inl M_12))]) hP hD [3, 4] [0, 1, 2, 5] rfl rfl (by decide) (by decide) zk hFc hP1 hD1
      generalize H1 = H at hP hS ⊢
      have hP : va_P (dC, dI) classes [(ht, .inr (0, [.ref hm, .ref hs, .ref hp, .int (nI cn), .int (-1), .int (bI false), .ref he, .int (nI 0), .int (nI 0)])), (hm, .inr (1, [.int sc, .ref hn, .int (nI nk)])), (hn, .inl (cI, 16, .inl nd)), (hs, .inr (2, [.ref hw, .int (nI bl), .int dn_12, .int lf_12])), (hw, .inl (cI, 40, .inl M_12)), (he, .inl (cI, 3, .inl en))] H := hP.sub [0, 1, 2, 4, 5, 3] rfl
      have hD : va_D A [(ht, .inr (0, [.ref hm, .ref hs, .ref hp, .int (nI cn), .int (-1), .int (bI false), .ref he, .int (nI 0), .int (nI 0)])), (hm, .inr (1, [.int sc, .ref hn, .int (nI nk)])), (hn, .inl (cI, 16, .inl nd)), (hs, .inr (2, [.ref hw, .int (nI bl), .int dn_12, .int lf_12])), (hw, .inl (cI, 40, .inl M_12)), (he, .inl (cI, 3, .inl en))] := hD.sub [0, 1, 2, 4, 5, 3] (by decide) rfl
      clear hPc hDc hFc hP1 hD1 zk zz zvm zt
      refine bz_ne (tgt := 43) hx hb d_TS_boot_35 (by decide) (fun h_13 => ?_) (fun h_13 => ?_)
      · subst h_13
        refine lv_aload_n hx hb d_TS_boot_43 rfl (lv_at hl 2 rfl) ?_
        refine lv_iload_n hx hb d_TS_boot_44 rfl (lv_at hl 0 rfl) ?_
        have hPc := hP.sub (ws' := [(ht, .inr (0, [.ref hm, .ref hs, .ref hp, .int (nI cn), .int (-1), .int (bI false), .ref he, .int (nI 0), .int (nI 0)])), (hm, .inr (1, [.int sc, .ref hn, .int (nI nk)])), (hn, .inl (cI, 16, .inl nd)), (hs, .inr (2, [.ref hw, .int (nI bl), .int dn_12, .int lf_12])), (hw, .inl (cI, 40, .inl M_12)), (he, .inl (cI, 3, .inl en))]) [0, 1, 2, 3, 4, 5] rfl
        have hDc := hD.sub (ws' := [(ht, .inr (0, [.ref hm, .ref hs, .ref hp, .int (nI cn), .int (-1), .int (bI false), .ref he, .int (nI 0), .int (nI 0)])), (hm, .inr (1, [.int sc, .ref hn, .int (nI nk)])), (hn, .inl (cI, 16, .inl nd)), (hs, .inr (2, [.ref hw, .int (nI bl), .int dn_12, .int lf_12])), (hw, .inl (cI, 40, .inl M_12)), (he, .inl (cI, 3, .inl en))]) [0, 1, 2, 3, 4, 5] (by decide) rfl
        have hFc := va_free (wc := [(ht, .inr (0, [.ref hm, .ref hs, .ref hp, .int (nI cn), .int (-1), .int (bI false), .ref he, .int (nI 0), .int (nI 0)])), (hm, .inr (1, [.int sc, .ref hn, .int (nI nk)])), (hn, .inl (cI, 16, .inl nd)), (hs, .inr (2, [.ref hw, .int (nI bl), .int dn_12, .int lf_12])), (hw, .inl (cI, 40, .inl M_12)), (he, .inl (cI, 3, .inl en))]) hD hS hA [0, 1, 2, 3, 4, 5] rfl
        refine va_calli (va_runV (As := [.int (nI 1)]) (rest := []) ⟨hx, hb, hml, hown, hts⟩ (c_TS_attempt l dC dI cI (ht := ht) (k := 1) (hm := hm) (hs := hs) (hp := hp) (cn := cn) (rn := (-1)) (tr := false) (he := he) (ec := 0) (me := (nI 0)) (sc := sc) (hn := hn) (nk := nk) (nd := nd) (hw := hw) (bl := bl) (dn := dn_12) (lf := lf_12) (M := M_12) (en := en) (hk := (by omega)) (hbl := (by omega)) (sz := H.size)) ⟨callB_of 1 hts (gd kw_316) rfl rfl rfl (hts _ kw_35) (hts _ kw_313) (by decide +kernel) ⟨Nat.le_of_ble_eq_true rfl, Nat.le_of_ble_eq_true rfl⟩, (hts _ kw_315), (hts _ kw_12)⟩ ⟨fun a U g mk q => by obtain ⟨q0, q1, qP, qK, qD⟩ := q; exact ⟨q0, q1, qP, qK.call, qD⟩, va_recv hK hP (ci := 0) rfl (q0 := 0) rfl, fun U hU hW => ⟨rfl, by rw [hU], by rw [hU]; exact hPc, hKN.warm hW, hDc.weaken (fun _ _ _ _ => trivial)⟩⟩ rfl rfl hl.1 rfl (lv_room (Nat.le_of_ble_eq_true rfl)) d_TS_boot_45 ⟨Nat.zero_le _, Nat.zero_le _⟩) hS (fun q _ h => hFc q h) hFc (fun r u t H1 locs zt zvm zw zB zz zk hS => ?_)
        obtain ⟨en_14, ec_14, me_14⟩ := u
        obtain ⟨b_14, rfl, hu_14⟩ := zw
        obtain ⟨hP1, hD1⟩ := zB
        rw [zt] at hP1
        have hP1 : va_P (dC, dI) classes [(ht, .inr (0, [.ref hm, .ref hs, .ref hp, .int (nI cn), .int (-1), .int (bI false), .ref he, .int (nI ec_14), .int me_14])), (hm, .inr (1, [.int sc, .ref hn, .int (nI nk)])), (hn, .inl (cI, 16, .inl nd)), (hs, .inr (2, [.ref hw, .int (nI bl), .int dn_12, .int lf_12])), (hw, .inl (cI, 40, .inl M_12)), (he, .inl (cI, 3, .inl en_14))] H1 := hP1
        obtain ⟨hP, hD⟩ := va_join (wc := [(ht, .inr (0, [.ref hm, .ref hs, .ref hp, .int (nI cn), .int (-1), .int (bI false), .ref he, .int (nI 0), .int (nI 0)])), (hm, .inr (1, [.int sc, .ref hn, .int (nI nk)])), (hn, .inl (cI, 16, .inl nd)), (hs, .inr (2, [.ref hw, .int (nI bl), .int dn_12, .int lf_12])), (hw, .inl (cI, 40, .inl M_12)), (he, .inl (cI, 3, .inl en))]) (wr := []) (w1 := [(ht, .inr (0, [.ref hm, .ref hs, .ref hp, .int (nI cn), .int (-1), .int (bI false), .ref he, .int (nI ec_14), .int me_14])), (hm, .inr (1, [.int sc, .ref hn, .int (nI nk)])), (hn, .inl (cI, 16, .inl nd)), (hs, .inr (2, [.ref hw, .int (nI bl), .int dn_12, .int lf_12])), (hw, .inl (cI, 40, .inl M_12)), (he, .inl (cI, 3, .inl en_14))]) hP hD [0, 1, 2, 3, 4, 5] [] rfl rfl (by decide) (by decide) zk hFc hP1 hD1
        generalize H1 = H at hP hS ⊢
        have hP : va_P (dC, dI) classes [(ht, .inr (0, [.ref hm, .ref hs, .ref hp, .int (nI cn), .int (-1), .int (bI false), .ref he, .int (nI ec_14), .int me_14])), (hm, .inr (1, [.int sc, .ref hn, .int (nI nk)])), (hn, .inl (cI, 16, .inl nd)), (hs, .inr (2, [.ref hw, .int (nI bl), .int dn_12, .int lf_12])), (hw, .inl (cI, 40, .inl M_12)), (he, .inl (cI, 3, .inl en_14))] H := hP.sub [0, 1, 2, 3, 4, 5] rfl
        have hD : va_D A [(ht, .inr (0, [.ref hm, .ref hs, .ref hp, .int (nI cn), .int (-1), .int (bI false), .ref he, .int (nI ec_14), .int me_14])), (hm, .inr (1, [.int sc, .ref hn, .int (nI nk)])), (hn, .inl (cI, 16, .inl nd)), (hs, .inr (2, [.ref hw, .int (nI bl), .int dn_12, .int lf_12])), (hw, .inl (cI, 40, .inl M_12)), (he, .inl (cI, 3, .inl en_14))] := hD.sub [0, 1, 2, 3, 4, 5] (by decide) rfl
        clear hPc hDc hFc hP1 hD1 zk zz zvm zt
        refine bz_eq (tgt := 63) hx hb d_TS_boot_48 (by decide) (fun h_15 => ?_) (fun h_15 => ?_)
        · subst h_15
          refine lv_aload_n hx hb d_TS_boot_63 rfl (lv_at hl 2 rfl) ?_
          have hPc := hP.sub (ws' := [(ht, .inr (0, [.ref hm, .ref hs, .ref hp, .int (nI cn), .int (-1), .int (bI false), .ref he, .int (nI ec_14), .int me_14])), (hm, .inr (1, [.int sc, .ref hn, .int (nI nk)])), (hn, .inl (cI, 16, .inl nd)), (hs, .inr (2, [.ref hw, .int (nI bl), .int dn_12, .int lf_12])), (hw, .inl (cI, 40, .inl M_12)), (he, .inl (cI, 3, .inl en_14))]) [0, 1, 2, 3, 4, 5] rfl
          have hDc := hD.sub (ws' := [(ht, .inr (0, [.ref hm, .ref hs, .ref hp, .int (nI cn), .int (-1), .int (bI false), .ref he, .int (nI ec_14), .int me_14])), (hm, .inr (1, [.int sc, .ref hn, .int (nI nk)])), (hn, .inl (cI, 16, .inl nd)), (hs, .inr (2, [.ref hw, .int (nI bl), .int dn_12, .int lf_12])), (hw, .inl (cI, 40, .inl M_12)), (he, .inl (cI, 3, .inl en_14))]) [0, 1, 2, 3, 4, 5] (by decide) rfl
          have hFc := va_free (wc := [(ht, .inr (0, [.ref hm, .ref hs, .ref hp, .int (nI cn), .int (-1), .int (bI false), .ref he, .int (nI ec_14), .int me_14])), (hm, .inr (1, [.int sc, .ref hn, .int (nI nk)])), (hn, .inl (cI, 16, .inl nd)), (hs, .inr (2, [.ref hw, .int (nI bl), .int dn_12, .int lf_12])), (hw, .inl (cI, 40, .inl M_12)), (he, .inl (cI, 3, .inl en_14))]) hD hS hA [0, 1, 2, 3, 4, 5] rfl
          refine va_calli (va_runV (As := []) (rest := []) ⟨hx, hb, hml, hown, hts⟩ (c_TS_startConfirmed l dC dI cI (ht := ht) (hm := hm) (hs := hs) (hp := hp) (cn := cn) (rn := (-1)) (tr := false) (he := he) (ec := ec_14) (me := me_14) (sc := sc) (hn := hn) (nk := nk) (nd := nd) (hw := hw) (bl := bl) (dn := dn_12) (lf := lf_12) (M := M_12) (en := en_14) (hbl := (by omega)) (sz := H.size)) ⟨callB_of 0 hts (gd kw_332) rfl rfl rfl (hts _ kw_35) (hts _ kw_329) (by decide +kernel) ⟨Nat.le_of_ble_eq_true rfl, Nat.le_of_ble_eq_true rfl⟩, (hts _ kw_331), (hts _ kw_14)⟩ ⟨fun a U g mk q => by obtain ⟨q0, q1, qP, qK, qD⟩ := q; exact ⟨q0, q1, qP, qK.call, qD⟩, va_recv hK hP (ci := 0) rfl (q0 := 0) rfl, fun U hU hW => ⟨rfl, by rw [hU], by rw [hU]; exact hPc, hKN.warm hW, hDc.weaken (fun _ _ _ _ => trivial)⟩⟩ rfl rfl hl.1 rfl (lv_room (Nat.le_of_ble_eq_true rfl)) d_TS_boot_64 ⟨Nat.zero_le _, Nat.zero_le _⟩) hS (fun q _ h => hFc q h) hFc (fun r u t H1 locs zt zvm zw zB zz zk hS => ?_)
          obtain ⟨rn_16, tr_16, en_16, ec_16, me_16, bl_16, dn_16, lf_16⟩ := u
          obtain ⟨r_16, rfl⟩ : ∃ z, z = r := ⟨_, rfl⟩
          have hu_16 := zw
          obtain ⟨hP1, hD1⟩ := zB
          rw [zt] at hP1
          have hP1 : va_P (dC, dI) classes [(ht, .inr (0, [.ref hm, .ref hs, .ref hp, .int (nI cn), .int rn_16, .int (bI tr_16), .ref he, .int (nI ec_16), .int me_16])), (hm, .inr (1, [.int sc, .ref hn, .int (nI nk)])), (hn, .inl (cI, 16, .inl nd)), (hs, .inr (2, [.ref hw, .int (nI bl_16), .int dn_16, .int lf_16])), (hw, .inl (cI, 40, .inl M_12)), (he, .inl (cI, 3, .inl en_16))] H1 := hP1
          obtain ⟨hP, hD⟩ := va_join (wc := [(ht, .inr (0, [.ref hm, .ref hs, .ref hp, .int (nI cn), .int (-1), .int (bI false), .ref he, .int (nI ec_14), .int me_14])), (hm, .inr (1, [.int sc, .ref hn, .int (nI nk)])), (hn, .inl (cI, 16, .inl nd)), (hs, .inr (2, [.ref hw, .int (nI bl), .int dn_12, .int lf_12])), (hw, .inl (cI, 40, .inl M_12)), (he, .inl (cI, 3, .inl en_14))]) (wr := []) (w1 := [(ht, .inr (0, [.ref hm, .ref hs, .ref hp, .int (nI cn), .int rn_16, .int (bI tr_16), .ref he, .int (nI ec_16), .int me_16])), (hm, .inr (1, [.int sc, .ref hn, .int (nI nk)])), (hn, .inl (cI, 16, .inl nd)), (hs, .inr (2, [.ref hw, .int (nI bl_16), .int dn_16, .int lf_16])), (hw, .inl (cI, 40, .inl M_12)), (he, .inl (cI, 3, .inl en_16))]) hP hD [0, 1, 2, 3, 4, 5] [] rfl rfl (by decide) (by decide) zk hFc hP1 hD1
          generalize H1 = H at hP hS ⊢
          have hP : va_P (dC, dI) classes [(ht, .inr (0, [.ref hm, .ref hs, .ref hp, .int (nI cn), .int rn_16, .int (bI tr_16), .ref he, .int (nI ec_16), .int me_16])), (hm, .inr (1, [.int sc, .ref hn, .int (nI nk)])), (hn, .inl (cI, 16, .inl nd)), (hs, .inr (2, [.ref hw, .int (nI bl_16), .int dn_16, .int lf_16])), (hw, .inl (cI, 40, .inl M_12)), (he, .inl (cI, 3, .inl en_16))] H := hP.sub [0, 1, 2, 3, 4, 5] rfl
          have hD : va_D A [(ht, .inr (0, [.ref hm, .ref hs, .ref hp, .int (nI cn), .int rn_16, .int (bI tr_16), .ref he, .int (nI ec_16), .int me_16])), (hm, .inr (1, [.int sc, .ref hn, .int (nI nk)])), (hn, .inl (cI, 16, .inl nd)), (hs, .inr (2, [.ref hw, .int (nI bl_16), .int dn_16, .int lf_16])), (hw, .inl (cI, 40, .inl M_12)), (he, .inl (cI, 3, .inl en_16))] := hD.sub [0, 1, 2, 3, 4, 5] (by decide) rfl
          clear hPc hDc hFc hP1 hD1 zk zz zvm zt
          exact W.iret (v := r_16) hx hb hr (fun t ht hW => ⟨⟨r_16, (rn_16, tr_16, en_16, ec_16, me_16, M_12, bl_16, dn_16, lf_16), rfl, (by simp only [btC, scB, ht0, hu_12, hu_14, hu_16, eq_self, reduceCtorEq, if_true, if_false, Nat.reduceSub]), by rw [ht]; exact hP, hD⟩, hS.F ht⟩) hS.2.2 d_TS_boot_67
        · subst h_15
          refine lv_aload_n hx hb d_TS_boot_51 rfl (lv_at hl 2 rfl) ?_
          refine lv_iload_n hx hb d_TS_boot_52 rfl (lv_at hl 0 rfl) ?_
          refine va_put (D := (dC, dI)) (ci := 0) (v := .int (nI 1)) (ty := .int) (C := R_TS) (T := F_TS) (N := 9) hx hb hts in_TS t_TS t_TS_ok n_TS hown hK hP hD hS 0 rfl rfl 4 (by decide) (hts _ kw_146) (fun _ h9 => h9) rfl (by decide +kernel) rfl rfl (Nat.le_of_ble_eq_true rfl) d_TS_boot_53 (fun H locs hP hD hS => ?_)
          have hP : va_P (dC, dI) classes [(ht, .inr (0, [.ref hm, .ref hs, .ref hp, .int (nI cn), .int (nI 1), .int (bI false), .ref he, .int (nI ec_14), .int me_14])), (hm, .inr (1, [.int sc, .ref hn, .int (nI nk)])), (hn, .inl (cI, 16, .inl nd)), (hs, .inr (2, [.ref hw, .int (nI bl), .int dn_12, .int lf_12])), (hw, .inl (cI, 40, .inl M_12)), (he, .inl (cI, 3, .inl en_14))] H := hP
          have hD : va_D A [(ht, .inr (0, [.ref hm, .ref hs, .ref hp, .int (nI cn), .int (nI 1), .int (bI false), .ref he, .int (nI ec_14), .int me_14])), (hm, .inr (1, [.int sc, .ref hn, .int (nI nk)])), (hn, .inl (cI, 16, .inl nd)), (hs, .inr (2, [.ref hw, .int (nI bl), .int dn_12, .int lf_12])), (hw, .inl (cI, 40, .inl M_12)), (he, .inl (cI, 3, .inl en_14))] := hD
          refine lv_aload_n hx hb d_TS_boot_56 rfl (lv_at hl 2 rfl) ?_
          refine lv_iconst (v := (nI 1)) hx hb d_TS_boot_57 (by decide) ?_
          refine va_put (D := (dC, dI)) (ci := 0) (v := .int (bI true)) (ty := .boolean) (C := R_TS) (T := F_TS) (N := 9) hx hb hts in_TS t_TS t_TS_ok n_TS hown hK hP hD hS 0 rfl rfl 5 (by decide) (hts _ kw_147) (fun _ h9 => h9) rfl (by decide +kernel) (bI_narrow _) (bI_fits _) (Nat.le_of_ble_eq_true rfl) d_TS_boot_58 (fun H locs hP hD hS => ?_)
          have hP : va_P (dC, dI) classes [(ht, .inr (0, [.ref hm, .ref hs, .ref hp, .int (nI cn), .int (nI 1), .int (bI true), .ref he, .int (nI ec_14), .int me_14])), (hm, .inr (1, [.int sc, .ref hn, .int (nI nk)])), (hn, .inl (cI, 16, .inl nd)), (hs, .inr (2, [.ref hw, .int (nI bl), .int dn_12, .int lf_12])), (hw, .inl (cI, 40, .inl M_12)), (he, .inl (cI, 3, .inl en_14))] H := hP
          have hD : va_D A [(ht, .inr (0, [.ref hm, .ref hs, .ref hp, .int (nI cn), .int (nI 1), .int (bI true), .ref he, .int (nI ec_14), .int me_14])), (hm, .inr (1, [.int sc, .ref hn, .int (nI nk)])), (hn, .inl (cI, 16, .inl nd)), (hs, .inr (2, [.ref hw, .int (nI bl), .int dn_12, .int lf_12])), (hw, .inl (cI, 40, .inl M_12)), (he, .inl (cI, 3, .inl en_14))] := hD
          refine lv_iload_n hx hb d_TS_boot_61 rfl (lv_at hl 0 rfl) ?_
          exact W.iret (v := (nI 1)) hx hb hr (fun t ht hW => ⟨⟨(nI 1), ((nI 1), true, en_14, ec_14, me_14, M_12, bl, dn_12, lf_12), rfl, (by simp only [btC, scB, ht0, hu_12, hu_14, eq_self, reduceCtorEq, if_true, if_false, Nat.reduceSub]), by rw [ht]; exact hP, hD⟩, hS.F ht⟩) hS.2.2 d_TS_boot_62
      · subst h_13
        refine lv_aload_n hx hb d_TS_boot_38 rfl (lv_at hl 2 rfl) ?_
        have hPc := hP.sub (ws' := [(ht, .inr (0, [.ref hm, .ref hs, .ref hp, .int (nI cn), .int (-1), .int (bI false), .ref he, .int (nI 0), .int (nI 0)]))]) [0] rfl
        have hDc := hD.sub (ws' := [(ht, .inr (0, [.ref hm, .ref hs, .ref hp, .int (nI cn), .int (-1), .int (bI false), .ref he, .int (nI 0), .int (nI 0)]))]) [0] (by decide) rfl
        have hFc := va_free (wc := [(ht, .inr (0, [.ref hm, .ref hs, .ref hp, .int (nI cn), .int (-1), .int (bI false), .ref he, .int (nI 0), .int (nI 0)]))]) hD hS hA [0] rfl
        refine va_calli (va_runV (As := []) (rest := []) ⟨hx, hb, hml, hown, hts⟩ (c_TS_powerLost l dC dI cI (ht := ht) (hm := hm) (hs := hs) (hp := hp) (cn := cn) (rn := (-1)) (tr := false) (he := he) (ec := 0) (me := (nI 0))  (sz := H.size)) ⟨callB_of 0 hts (gd kw_293) rfl rfl rfl (hts _ kw_35) (hts _ kw_290) (by decide +kernel) ⟨Nat.le_of_ble_eq_true rfl, Nat.le_of_ble_eq_true rfl⟩, (hts _ kw_292), (hts _ kw_9)⟩ ⟨fun a U g mk q => by obtain ⟨q0, q1, qP, qK, qD⟩ := q; exact ⟨q0, q1, qP, qK.call, qD⟩, va_recv hK hP (ci := 0) rfl (q0 := 0) rfl, fun U hU hW => ⟨rfl, by rw [hU], by rw [hU]; exact hPc, hKN.warm hW, hDc.weaken (fun _ _ _ _ => trivial)⟩⟩ rfl rfl hl.1 rfl (lv_room (Nat.le_of_ble_eq_true rfl)) d_TS_boot_39 ⟨Nat.zero_le _, Nat.zero_le _⟩) hS (fun q _ h => hFc q h) hFc (fun r u t H1 locs zt zvm zw zB zz zk hS => ?_)
        obtain ⟨rn_17, tr_17, ec_17, me_17⟩ := u
        obtain ⟨r_17, rfl⟩ : ∃ z, z = r := ⟨_, rfl⟩
        have hu_17 := zw
        simp only [Prod.mk.injEq] at hu_17
        obtain ⟨rfl, rfl, rfl, rfl, rfl⟩ := hu_17
        obtain ⟨hP1, hD1⟩ := zB
        rw [zt] at hP1
        have hP1 : va_P (dC, dI) classes [(ht, .inr (0, [.ref hm, .ref hs, .ref hp, .int (nI cn), .int (-1), .int (bI false), .ref he, .int (nI 0), .int (nI 0)]))] H1 := hP1
        obtain ⟨hP, hD⟩ := va_join (wc := [(ht, .inr (0, [.ref hm, .ref hs, .ref hp, .int (nI cn), .int (-1), .int (bI false), .ref he, .int (nI 0), .int (nI 0)]))]) (wr := [(hm, .inr (1, [.int sc, .ref hn, .int (nI nk)])), (hn, .inl (cI, 16, .inl nd)), (hs, .inr (2, [.ref hw, .int (nI bl), .int dn_12, .int lf_12])), (hw, .inl (cI, 40, .inl M_12)), (he, .inl (cI, 3, .inl en))]) (w1 := [(ht, .inr (0, [.ref hm, .ref hs, .ref hp, .int (nI cn), .int (-1), .int (bI false), .ref he, .int (nI 0), .int (nI 0)]))]) hP hD [0] [1, 2, 3, 4, 5] rfl rfl (by decide) (by decide) zk hFc hP1 hD1
        generalize H1 = H at hP hS ⊢
        have hP : va_P (dC, dI) classes [(ht, .inr (0, [.ref hm, .ref hs, .ref hp, .int (nI cn), .int (-1), .int (bI false), .ref he, .int (nI 0), .int (nI 0)])), (hm, .inr (1, [.int sc, .ref hn, .int (nI nk)])), (hn, .inl (cI, 16, .inl nd)), (hs, .inr (2, [.ref hw, .int (nI bl), .int dn_12, .int lf_12])), (hw, .inl (cI, 40, .inl M_12)), (he, .inl (cI, 3, .inl en))] H := hP.sub [5, 0, 1, 2, 3, 4] rfl
        have hD : va_D A [(ht, .inr (0, [.ref hm, .ref hs, .ref hp, .int (nI cn), .int (-1), .int (bI false), .ref he, .int (nI 0), .int (nI 0)])), (hm, .inr (1, [.int sc, .ref hn, .int (nI nk)])), (hn, .inl (cI, 16, .inl nd)), (hs, .inr (2, [.ref hw, .int (nI bl), .int dn_12, .int lf_12])), (hw, .inl (cI, 40, .inl M_12)), (he, .inl (cI, 3, .inl en))] := hD.sub [5, 0, 1, 2, 3, 4] (by decide) rfl
        clear hPc hDc hFc hP1 hD1 zk zz zvm zt
        exact W.iret (v := (-1)) hx hb hr (fun t ht hW => ⟨⟨(-1), ((-1), false, en, 0, (nI 0), M_12, bl, dn_12, lf_12), rfl, (by simp only [btC, scB, ht0, hu_12, eq_self, reduceCtorEq, if_true, if_false, Nat.reduceSub]), by rw [ht]; exact hP, hD⟩, hS.F ht⟩) hS.2.2 d_TS_boot_42
set_option maxHeartbeats 4000000 in
set_option maxRecDepth 100000 in
theorem c_TS_update (l : Launch) (dC : Nat → ClassId) (dI : Nat → Nat → Nat) (cI : ClassId) (ht : Nat) (v : Int32) (hm : Nat) (hs : Nat) (hp : Nat) (cn : Nat) (rn : Int32) (tr : Bool) (he : Nat) (ec : Nat) (me : Int32) (hw : Nat) (bl : Nat) (dn : Int32) (lf : Int32) (M : Nat → Int32) (pk : Nat → Int32) (hcn : cn ≤ 7) (hrn : rn = -1 ∨ rn = nI 0 ∨ rn = nI 1 ∨ rn = nI 2) (sz : Nat) : Met l y_TS_update w_TS_update ({ frames := 6, cells := 0, slots := 0, locals := 135 }) (va_Pc [.ref ht, .int v] (fun U => U.heap.size = sz ∧ va_P (dC, dI) classes [(ht, .inr (0, [.ref hm, .ref hs, .ref hp, .int (nI cn), .int rn, .int (bI tr), .ref he, .int (nI ec), .int me])), (hs, .inr (2, [.ref hw, .int (nI bl), .int dn, .int lf])), (hw, .inl (cI, 40, .inl M)), (hp, .inl (cI, 119, .inl pk))] U.heap ∧ KN dC dI cI U ∧ va_D (fun _ => True) [(ht, .inr (0, [.ref hm, .ref hs, .ref hp, .int (nI cn), .int rn, .int (bI tr), .ref he, .int (nI ec), .int me])), (hs, .inr (2, [.ref hw, .int (nI bl), .int dn, .int lf])), (hw, .inl (cI, 40, .inl M)), (hp, .inl (cI, 119, .inl pk))])) (va_Qi (fun (r : Int32) (u : Int32 × Bool × Nat × Int32 × (Nat → Int32) × Int32 × Int32) => upD v cn pk rn tr ec me M dn lf = (r, u)) (fun (u : Int32 × Bool × Nat × Int32 × (Nat → Int32) × Int32 × Int32) t => va_P (dC, dI) classes [(ht, .inr (0, [.ref hm, .ref hs, .ref hp, .int (nI cn), .int u.1, .int (bI u.2.1), .ref he, .int (nI u.2.2.1), .int u.2.2.2.1])), (hs, .inr (2, [.ref hw, .int (nI bl), .int u.2.2.2.2.2.1, .int u.2.2.2.2.2.2])), (hw, .inl (cI, 40, .inl u.2.2.2.2.1)), (hp, .inl (cI, 119, .inl pk))] t.heap ∧ va_D (va_A [(ht, .inr (0, [.ref hm, .ref hs, .ref hp, .int (nI cn), .int rn, .int (bI tr), .ref he, .int (nI ec), .int me])), (hs, .inr (2, [.ref hw, .int (nI bl), .int dn, .int lf])), (hw, .inl (cI, 40, .inl M)), (hp, .inl (cI, 119, .inl pk))] sz) [(ht, .inr (0, [.ref hm, .ref hs, .ref hp, .int (nI cn), .int u.1, .int (bI u.2.1), .ref he, .int (nI u.2.2.1), .int u.2.2.2.1])), (hs, .inr (2, [.ref hw, .int (nI bl), .int u.2.2.2.2.2.1, .int u.2.2.2.2.2.2])), (hw, .inl (cI, 40, .inl u.2.2.2.2.1)), (hp, .inl (cI, 119, .inl pk))]) (va_A [(ht, .inr (0, [.ref hm, .ref hs, .ref hp, .int (nI cn), .int rn, .int (bI tr), .ref he, .int (nI ec), .int me])), (hs, .inr (2, [.ref hw, .int (nI bl), .int dn, .int lf])), (hw, .inl (cI, 40, .inl M)), (hp, .inl (cI, 119, .inl pk))] sz)) 0 0 (va_A [(ht, .inr (0, [.ref hm, .ref hs, .ref hp, .int (nI cn), .int rn, .int (bI tr), .ref he, .int (nI ec), .int me])), (hs, .inr (2, [.ref hw, .int (nI bl), .int dn, .int lf])), (hw, .inl (cI, 40, .inl M)), (hp, .inl (cI, 119, .inl pk))] sz) := by
  refine Met.ofW (cc := b_TS_update) (maxL := 3) (ret := (some .int)) (by decide) rfl ?_
  intro p e s m args below meth c s₁ B hml hv
  obtain ⟨rfl, hsz, hP, hKN, hD0⟩ := hv
  have hK := hKN.1
  have hx := B.exec
  have hb := B.bytes
  have hr := B.returns
  have hts := fun (w : Cond) (h : w ∈ gt) => atoms_spec (ws := w_TS_update) B.pre w (List.mem_cons_of_mem _ h)
  have hown : s.vm.findClass R_TS = some m.cls := findClass_of_methodNamed B.named
  have hlocks := B.notSynchronized
  subst hsz
  have hD := hD0.self (sz := s.heap.size)
  generalize hAe : va_A [(ht, .inr (0, [.ref hm, .ref hs, .ref hp, .int (nI cn), .int rn, .int (bI tr), .ref he, .int (nI ec), .int me])), (hs, .inr (2, [.ref hw, .int (nI bl), .int dn, .int lf])), (hw, .inl (cI, 40, .inl M)), (hp, .inl (cI, 119, .inl pk))] s.heap.size = A at hD ⊢
  have hA : ∀ q : Nat, s.heap.size ≤ q → A q := fun q h => by rw [← hAe]; exact Or.inr h
  have hS : va_S A s.heap s.heap [] := va_S.rf
  have hP : va_P (dC, dI) classes [(ht, .inr (0, [.ref hm, .ref hs, .ref hp, .int (nI cn), .int rn, .int (bI tr), .ref he, .int (nI ec), .int me])), (hs, .inr (2, [.ref hw, .int (nI bl), .int dn, .int lf])), (hw, .inl (cI, 40, .inl M)), (hp, .inl (cI, 119, .inl pk))] s.heap := hP
  clear hAe hD0
  have hl := lv_entry ([.ref ht, .int v]) (n := 3) (Nat.le_of_ble_eq_true rfl)
  rw [lg_entry_eq]
  generalize (lg_sl ([.ref ht, .int v]) ++ List.replicate (3 - (lg_sl ([.ref ht, .int v])).length) Slot.unset).toArray = ls at hl ⊢
  have hl : lv_has ls 3 [(0, .ref ht), (1, .int v)] := hl
  rcases pk_or (v := v) (n := cn) (by omega) with ⟨j, hj, rfl, hjp⟩ | hbad
  · refine lv_aload_n hx hb d_TS_update_0 rfl (lv_at hl 0 rfl) ?_
    refine lv_iload_n hx hb d_TS_update_1 rfl (lv_at hl 1 rfl) ?_
    refine pr_call (va_runV (As := [.int (nI j)]) (rest := []) ⟨hx, hb, hml, hown, hts⟩ (c_TS_isPackage l dC dI cI (ht := ht) (v := (nI j)) (hm := hm) (hs := hs) (hp := hp) (cn := cn) (rn := rn) (tr := tr) (he := he) (ec := ec) (me := me) ) ⟨callB_of 1 hts (gd kw_203) rfl rfl rfl (hts _ kw_35) (hts _ kw_200) (by decide +kernel) ⟨Nat.le_of_ble_eq_true rfl, Nat.le_of_ble_eq_true rfl⟩, (hts _ kw_202), (hts _ kw_3)⟩ ⟨fun a U g mk q => by obtain ⟨q0, qP, qK⟩ := q; exact ⟨q0, qP, qK.call⟩, va_recv hK hP (ci := 0) rfl (q0 := 0) rfl, fun U hU hW => ⟨rfl, by rw [hU]; exact hP.sub [0] rfl, hKN.warm hW⟩⟩ rfl rfl hl.1 rfl (lv_room (Nat.le_of_ble_eq_true rfl)) d_TS_update_2 ⟨Nat.zero_le _, Nat.zero_le _⟩) ?_
    refine bz_eq (tgt := 23) hx hb d_TS_update_5 (by decide) (fun h_1 => ?_) (fun h_1 => ?_)
    · simp [hjp] at h_1
    · refine lv_aload_n hx hb d_TS_update_8 rfl (lv_at hl 0 rfl) ?_
      refine va_get (D := (dC, dI)) (ci := 0) (v := .int rn) (C := R_TS) (T := F_TS) (N := 9) hx hb hts in_TS hown hK hP 0 rfl rfl 4 (by decide) (hts _ kw_146) (fun _ h9 => h9) rfl d_TS_update_9 ?_
      refine lv_iconst (v := (-1)) hx hb d_TS_update_12 (by decide) ?_
      refine lv_icmp_eq (tgt := 23) hx hb d_TS_update_13 (by decide) (fun h_2 => ?_) (fun h_2 => ?_)
      · refine lv_bipush (v := (-2)) hx hb d_TS_update_23 (by decide) ?_
        exact W.iret (v := (-2)) hx hb hr (fun t ht hW => ⟨⟨(-2), (rn, tr, ec, me, M, dn, lf), rfl, (by rw [upD, hjp, nI_clamp (by omega)]; simp only [upL, kept, h_1, if_pos h_2, eq_self, reduceCtorEq, if_true, if_false, Nat.reduceSub]), by rw [ht]; exact hP, hD⟩, hS.F ht⟩) hS.2.2 d_TS_update_25
      · refine lv_aload_n hx hb d_TS_update_16 rfl (lv_at hl 0 rfl) ?_
        refine va_get (D := (dC, dI)) (ci := 0) (v := .int (bI tr)) (C := R_TS) (T := F_TS) (N := 9) hx hb hts in_TS hown hK hP 0 rfl rfl 5 (by decide) (hts _ kw_147) (fun _ h9 => h9) rfl d_TS_update_17 ?_
        refine bz_eq (tgt := 26) hx hb d_TS_update_20 (by decide) (fun h_3 => ?_) (fun h_3 => ?_)
        · refine lv_aload_n hx hb d_TS_update_26 rfl (lv_at hl 0 rfl) ?_
          refine va_get (D := (dC, dI)) (ci := 0) (v := .int rn) (C := R_TS) (T := F_TS) (N := 9) hx hb hts in_TS hown hK hP 0 rfl rfl 4 (by decide) (hts _ kw_146) (fun _ h9 => h9) rfl d_TS_update_27 ?_
          refine lv_iconst (v := (nI 2)) hx hb d_TS_update_30 (by decide) ?_
          refine lv_icmp_ne (tgt := 47) hx hb d_TS_update_31 (by decide) (fun h_4 => ?_) (fun h_4 => ?_)
          · refine lv_aload_n hx hb d_TS_update_47 rfl (lv_at hl 0 rfl) ?_
            refine va_get (D := (dC, dI)) (ci := 0) (v := .int rn) (C := R_TS) (T := F_TS) (N := 9) hx hb hts in_TS hown hK hP 0 rfl rfl 4 (by decide) (hts _ kw_146) (fun _ h9 => h9) rfl d_TS_update_48 ?_
            obtain rfl | rfl := rn_01 hrn h_2 h_4
            · refine lv_istore_n (lv' := [(2, .int (nI 0)), (0, .ref ht), (1, .int (nI j))]) hx hb d_TS_update_51 rfl hl (by decide) rfl (fun ls hl => ?_)
              refine lv_aload_n hx hb d_TS_update_52 rfl (lv_at hl 1 rfl) ?_
              refine lv_iconst (v := (nI 1)) hx hb d_TS_update_53 (by decide) ?_
              refine lv_iload_n hx hb d_TS_update_54 rfl (lv_at hl 0 rfl) ?_
              refine lv_isub hx hb d_TS_update_55 ?_
              refine tp (y := (nI 1)) (by decide) ?_
              refine lv_iload_n hx hb d_TS_update_56 rfl (lv_at hl 2 rfl) ?_
              refine pr_call (va_runS (As := [.int (nI j)]) (rest := [.int (nI 1), .ref ht]) ⟨hx, hb, hml, hown, hts⟩ (c_TS_packagePlace l dC dI cI (k := j) ) ⟨callB_of 1 hts (gd kw_191) rfl rfl rfl (hts _ kw_35) (hts _ kw_189) (by decide +kernel) ⟨Nat.le_of_ble_eq_true rfl, Nat.le_of_ble_eq_true rfl⟩, (hts _ kw_190)⟩ ⟨fun a U g mk q => by obtain ⟨q0, qP, qK⟩ := q; exact ⟨q0, qP, qK.call⟩, fun U hU hW => ⟨rfl, by rw [hU]; exact hP.sub [] rfl, hKN.warm hW⟩⟩ rfl rfl hl.1 rfl (lv_room (Nat.le_of_ble_eq_true rfl)) d_TS_update_57 ⟨Nat.zero_le _, Nat.zero_le _⟩) ?_
              have hPc := hP.sub (ws' := [(ht, .inr (0, [.ref hm, .ref hs, .ref hp, .int (nI cn), .int (nI 0), .int (bI tr), .ref he, .int (nI ec), .int me])), (hs, .inr (2, [.ref hw, .int (nI bl), .int dn, .int lf])), (hw, .inl (cI, 40, .inl M)), (hp, .inl (cI, 119, .inl pk))]) [0, 1, 2, 3] rfl
              have hDc := hD.sub (ws' := [(ht, .inr (0, [.ref hm, .ref hs, .ref hp, .int (nI cn), .int (nI 0), .int (bI tr), .ref he, .int (nI ec), .int me])), (hs, .inr (2, [.ref hw, .int (nI bl), .int dn, .int lf])), (hw, .inl (cI, 40, .inl M)), (hp, .inl (cI, 119, .inl pk))]) [0, 1, 2, 3] (by decide) rfl
              have hFc := va_free (wc := [(ht, .inr (0, [.ref hm, .ref hs, .ref hp, .int (nI cn), .int (nI 0), .int (bI tr), .ref he, .int (nI ec), .int me])), (hs, .inr (2, [.ref hw, .int (nI bl), .int dn, .int lf])), (hw, .inl (cI, 40, .inl M)), (hp, .inl (cI, 119, .inl pk))]) hD hS hA [0, 1, 2, 3] rfl
              refine va_calli (va_runV (As := [.int (nI 1), .int (nI (j * 17))]) (rest := []) ⟨hx, hb, hml, hown, hts⟩ (c_TS_replace l dC dI cI (ht := ht) (k := 1) (b := j * 17) (hm := hm) (hs := hs) (hp := hp) (cn := cn) (rn := (nI 0)) (tr := tr) (he := he) (ec := ec) (me := me) (hw := hw) (bl := bl) (dn := dn) (lf := lf) (M := M) (pk := pk) (hk := (by omega)) (hb119 := (by omega)) (sz := s.heap.size)) ⟨callB_of 2 hts (gd kw_261) rfl rfl rfl (hts _ kw_35) (hts _ kw_258) (by decide +kernel) ⟨Nat.le_of_ble_eq_true rfl, Nat.le_of_ble_eq_true rfl⟩, (hts _ kw_260), (hts _ kw_6)⟩ ⟨fun a U g mk q => by obtain ⟨q0, q1, qP, qK, qD⟩ := q; exact ⟨q0, q1, qP, qK.call, qD⟩, va_recv hK hP (ci := 0) rfl (q0 := 0) rfl, fun U hU hW => ⟨rfl, by rw [hU], by rw [hU]; exact hPc, hKN.warm hW, hDc.weaken (fun _ _ _ _ => trivial)⟩⟩ rfl rfl hl.1 rfl (lv_room (Nat.le_of_ble_eq_true rfl)) d_TS_update_60 ⟨Nat.zero_le _, Nat.zero_le _⟩) hS (fun q _ h => hFc q h) hFc (fun r u t H1 locs zt zvm zw zB zz zk hS => ?_)
              obtain ⟨M_5, dn_5, lf_5⟩ := u
              obtain ⟨b_5, rfl, hu_5⟩ := zw
              obtain ⟨hP1, hD1⟩ := zB
              rw [zt] at hP1
              have hP1 : va_P (dC, dI) classes [(ht, .inr (0, [.ref hm, .ref hs, .ref hp, .int (nI cn), .int (nI 0), .int (bI tr), .ref he, .int (nI ec), .int me])), (hs, .inr (2, [.ref hw, .int (nI bl), .int dn_5, .int lf_5])), (hw, .inl (cI, 40, .inl M_5)), (hp, .inl (cI, 119, .inl pk))] H1 := hP1
              obtain ⟨hP, hD⟩ := va_join (wc := [(ht, .inr (0, [.ref hm, .ref hs, .ref hp, .int (nI cn), .int (nI 0), .int (bI tr), .ref he, .int (nI ec), .int me])), (hs, .inr (2, [.ref hw, .int (nI bl), .int dn, .int lf])), (hw, .inl (cI, 40, .inl M)), (hp, .inl (cI, 119, .inl pk))]) (wr := []) (w1 := [(ht, .inr (0, [.ref hm, .ref hs, .ref hp, .int (nI cn), .int (nI 0), .int (bI tr), .ref he, .int (nI ec), .int me])), (hs, .inr (2, [.ref hw, .int (nI bl), .int dn_5, .int lf_5])), (hw, .inl (cI, 40, .inl M_5)), (hp, .inl (cI, 119, .inl pk))]) hP hD [0, 1, 2, 3] [] rfl rfl (by decide) (by decide) zk hFc hP1 hD1
              generalize H1 = H at hP hS ⊢
              have hP : va_P (dC, dI) classes [(ht, .inr (0, [.ref hm, .ref hs, .ref hp, .int (nI cn), .int (nI 0), .int (bI tr), .ref he, .int (nI ec), .int me])), (hs, .inr (2, [.ref hw, .int (nI bl), .int dn_5, .int lf_5])), (hw, .inl (cI, 40, .inl M_5)), (hp, .inl (cI, 119, .inl pk))] H := hP.sub [0, 1, 2, 3] rfl
              have hD : va_D A [(ht, .inr (0, [.ref hm, .ref hs, .ref hp, .int (nI cn), .int (nI 0), .int (bI tr), .ref he, .int (nI ec), .int me])), (hs, .inr (2, [.ref hw, .int (nI bl), .int dn_5, .int lf_5])), (hw, .inl (cI, 40, .inl M_5)), (hp, .inl (cI, 119, .inl pk))] := hD.sub [0, 1, 2, 3] (by decide) rfl
              clear hPc hDc hFc hP1 hD1 zk zz zvm zt
              refine bz_eq (tgt := 70) hx hb d_TS_update_63 (by decide) (fun h_6 => ?_) (fun h_6 => ?_)
              · subst h_6
                refine lv_aload_n hx hb d_TS_update_70 rfl (lv_at hl 1 rfl) ?_
                have hPc := hP.sub (ws' := [(ht, .inr (0, [.ref hm, .ref hs, .ref hp, .int (nI cn), .int (nI 0), .int (bI tr), .ref he, .int (nI ec), .int me]))]) [0] rfl
                have hDc := hD.sub (ws' := [(ht, .inr (0, [.ref hm, .ref hs, .ref hp, .int (nI cn), .int (nI 0), .int (bI tr), .ref he, .int (nI ec), .int me]))]) [0] (by decide) rfl
                have hFc := va_free (wc := [(ht, .inr (0, [.ref hm, .ref hs, .ref hp, .int (nI cn), .int (nI 0), .int (bI tr), .ref he, .int (nI ec), .int me]))]) hD hS hA [0] rfl
                refine va_calli (va_runV (As := []) (rest := []) ⟨hx, hb, hml, hown, hts⟩ (c_TS_powerLost l dC dI cI (ht := ht) (hm := hm) (hs := hs) (hp := hp) (cn := cn) (rn := (nI 0)) (tr := tr) (he := he) (ec := ec) (me := me)  (sz := H.size)) ⟨callB_of 0 hts (gd kw_293) rfl rfl rfl (hts _ kw_35) (hts _ kw_290) (by decide +kernel) ⟨Nat.le_of_ble_eq_true rfl, Nat.le_of_ble_eq_true rfl⟩, (hts _ kw_292), (hts _ kw_9)⟩ ⟨fun a U g mk q => by obtain ⟨q0, q1, qP, qK, qD⟩ := q; exact ⟨q0, q1, qP, qK.call, qD⟩, va_recv hK hP (ci := 0) rfl (q0 := 0) rfl, fun U hU hW => ⟨rfl, by rw [hU], by rw [hU]; exact hPc, hKN.warm hW, hDc.weaken (fun _ _ _ _ => trivial)⟩⟩ rfl rfl hl.1 rfl (lv_room (Nat.le_of_ble_eq_true rfl)) d_TS_update_71 ⟨Nat.zero_le _, Nat.zero_le _⟩) hS (fun q _ h => hFc q h) hFc (fun r u t H1 locs zt zvm zw zB zz zk hS => ?_)
                obtain ⟨rn_7, tr_7, ec_7, me_7⟩ := u
                obtain ⟨r_7, rfl⟩ : ∃ z, z = r := ⟨_, rfl⟩
                have hu_7 := zw
                simp only [Prod.mk.injEq] at hu_7
                obtain ⟨rfl, rfl, rfl, rfl, rfl⟩ := hu_7
                obtain ⟨hP1, hD1⟩ := zB
                rw [zt] at hP1
                have hP1 : va_P (dC, dI) classes [(ht, .inr (0, [.ref hm, .ref hs, .ref hp, .int (nI cn), .int (-1), .int (bI false), .ref he, .int (nI 0), .int (nI 0)]))] H1 := hP1
                obtain ⟨hP, hD⟩ := va_join (wc := [(ht, .inr (0, [.ref hm, .ref hs, .ref hp, .int (nI cn), .int (nI 0), .int (bI tr), .ref he, .int (nI ec), .int me]))]) (wr := [(hs, .inr (2, [.ref hw, .int (nI bl), .int dn_5, .int lf_5])), (hw, .inl (cI, 40, .inl M_5)), (hp, .inl (cI, 119, .inl pk))]) (w1 := [(ht, .inr (0, [.ref hm, .ref hs, .ref hp, .int (nI cn), .int (-1), .int (bI false), .ref he, .int (nI 0), .int (nI 0)]))]) hP hD [0] [1, 2, 3] rfl rfl (by decide) (by decide) zk hFc hP1 hD1
                generalize H1 = H at hP hS ⊢
                have hP : va_P (dC, dI) classes [(ht, .inr (0, [.ref hm, .ref hs, .ref hp, .int (nI cn), .int (-1), .int (bI false), .ref he, .int (nI 0), .int (nI 0)])), (hs, .inr (2, [.ref hw, .int (nI bl), .int dn_5, .int lf_5])), (hw, .inl (cI, 40, .inl M_5)), (hp, .inl (cI, 119, .inl pk))] H := hP.sub [3, 0, 1, 2] rfl
                have hD : va_D A [(ht, .inr (0, [.ref hm, .ref hs, .ref hp, .int (nI cn), .int (-1), .int (bI false), .ref he, .int (nI 0), .int (nI 0)])), (hs, .inr (2, [.ref hw, .int (nI bl), .int dn_5, .int lf_5])), (hw, .inl (cI, 40, .inl M_5)), (hp, .inl (cI, 119, .inl pk))] := hD.sub [3, 0, 1, 2] (by decide) rfl
                clear hPc hDc hFc hP1 hD1 zk zz zvm zt
                exact W.iret (v := (-1)) hx hb hr (fun t ht hW => ⟨⟨(-1), ((-1), false, 0, (nI 0), M_5, dn_5, lf_5), rfl, (by rw [upD, hjp, nI_clamp (by omega)]; simp only [upL, kept_0, h_1, if_neg h_2, h_3, if_neg h_4, hu_5, eq_self, reduceCtorEq, if_true, if_false, Nat.reduceSub]), by rw [ht]; exact hP, hD⟩, hS.F ht⟩) hS.2.2 d_TS_update_74
              · subst h_6
                refine lv_iconst (v := (nI 0)) hx hb d_TS_update_66 (by decide) ?_
                refine lv_goto (tgt := 74) hx hb d_TS_update_67 (by decide) ?_
                exact W.iret (v := (nI 0)) hx hb hr (fun t ht hW => ⟨⟨(nI 0), ((nI 0), tr, ec, me, M_5, dn_5, lf_5), rfl, (by rw [upD, hjp, nI_clamp (by omega)]; simp only [upL, kept_0, h_1, if_neg h_2, h_3, if_neg h_4, hu_5, eq_self, reduceCtorEq, if_true, if_false, Nat.reduceSub]), by rw [ht]; exact hP, hD⟩, hS.F ht⟩) hS.2.2 d_TS_update_74
            · refine lv_istore_n (lv' := [(2, .int (nI 1)), (0, .ref ht), (1, .int (nI j))]) hx hb d_TS_update_51 rfl hl (by decide) rfl (fun ls hl => ?_)
              refine lv_aload_n hx hb d_TS_update_52 rfl (lv_at hl 1 rfl) ?_
              refine lv_iconst (v := (nI 1)) hx hb d_TS_update_53 (by decide) ?_
              refine lv_iload_n hx hb d_TS_update_54 rfl (lv_at hl 0 rfl) ?_
              refine lv_isub hx hb d_TS_update_55 ?_
              refine tp (y := (nI 0)) (by decide) ?_
              refine lv_iload_n hx hb d_TS_update_56 rfl (lv_at hl 2 rfl) ?_
              refine pr_call (va_runS (As := [.int (nI j)]) (rest := [.int (nI 0), .ref ht]) ⟨hx, hb, hml, hown, hts⟩ (c_TS_packagePlace l dC dI cI (k := j) ) ⟨callB_of 1 hts (gd kw_191) rfl rfl rfl (hts _ kw_35) (hts _ kw_189) (by decide +kernel) ⟨Nat.le_of_ble_eq_true rfl, Nat.le_of_ble_eq_true rfl⟩, (hts _ kw_190)⟩ ⟨fun a U g mk q => by obtain ⟨q0, qP, qK⟩ := q; exact ⟨q0, qP, qK.call⟩, fun U hU hW => ⟨rfl, by rw [hU]; exact hP.sub [] rfl, hKN.warm hW⟩⟩ rfl rfl hl.1 rfl (lv_room (Nat.le_of_ble_eq_true rfl)) d_TS_update_57 ⟨Nat.zero_le _, Nat.zero_le _⟩) ?_
              have hPc := hP.sub (ws' := [(ht, .inr (0, [.ref hm, .ref hs, .ref hp, .int (nI cn), .int (nI 1), .int (bI tr), .ref he, .int (nI ec), .int me])), (hs, .inr (2, [.ref hw, .int (nI bl), .int dn, .int lf])), (hw, .inl (cI, 40, .inl M)), (hp, .inl (cI, 119, .inl pk))]) [0, 1, 2, 3] rfl
              have hDc := hD.sub (ws' := [(ht, .inr (0, [.ref hm, .ref hs, .ref hp, .int (nI cn), .int (nI 1), .int (bI tr), .ref he, .int (nI ec), .int me])), (hs, .inr (2, [.ref hw, .int (nI bl), .int dn, .int lf])), (hw, .inl (cI, 40, .inl M)), (hp, .inl (cI, 119, .inl pk))]) [0, 1, 2, 3] (by decide) rfl
              have hFc := va_free (wc := [(ht, .inr (0, [.ref hm, .ref hs, .ref hp, .int (nI cn), .int (nI 1), .int (bI tr), .ref he, .int (nI ec), .int me])), (hs, .inr (2, [.ref hw, .int (nI bl), .int dn, .int lf])), (hw, .inl (cI, 40, .inl M)), (hp, .inl (cI, 119, .inl pk))]) hD hS hA [0, 1, 2, 3] rfl
              refine va_calli (va_runV (As := [.int (nI 0), .int (nI (j * 17))]) (rest := []) ⟨hx, hb, hml, hown, hts⟩ (c_TS_replace l dC dI cI (ht := ht) (k := 0) (b := j * 17) (hm := hm) (hs := hs) (hp := hp) (cn := cn) (rn := (nI 1)) (tr := tr) (he := he) (ec := ec) (me := me) (hw := hw) (bl := bl) (dn := dn) (lf := lf) (M := M) (pk := pk) (hk := (by omega)) (hb119 := (by omega)) (sz := s.heap.size)) ⟨callB_of 2 hts (gd kw_261) rfl rfl rfl (hts _ kw_35) (hts _ kw_258) (by decide +kernel) ⟨Nat.le_of_ble_eq_true rfl, Nat.le_of_ble_eq_true rfl⟩, (hts _ kw_260), (hts _ kw_6)⟩ ⟨fun a U g mk q => by obtain ⟨q0, q1, qP, qK, qD⟩ := q; exact ⟨q0, q1, qP, qK.call, qD⟩, va_recv hK hP (ci := 0) rfl (q0 := 0) rfl, fun U hU hW => ⟨rfl, by rw [hU], by rw [hU]; exact hPc, hKN.warm hW, hDc.weaken (fun _ _ _ _ => trivial)⟩⟩ rfl rfl hl.1 rfl (lv_room (Nat.le_of_ble_eq_true rfl)) d_TS_update_60 ⟨Nat.zero_le _, Nat.zero_le _⟩) hS (fun q _ h => hFc q h) hFc (fun r u t H1 locs zt zvm zw zB zz zk hS => ?_)
              obtain ⟨M_8, dn_8, lf_8⟩ := u
              obtain ⟨b_8, rfl, hu_8⟩ := zw
              obtain ⟨hP1, hD1⟩ := zB
              rw [zt] at hP1
              have hP1 : va_P (dC, dI) classes [(ht, .inr (0, [.ref hm, .ref hs, .ref hp, .int (nI cn), .int (nI 1), .int (bI tr), .ref he, .int (nI ec), .int me])), (hs, .inr (2, [.ref hw, .int (nI bl), .int dn_8, .int lf_8])), (hw, .inl (cI, 40, .inl M_8)), (hp, .inl (cI, 119, .inl pk))] H1 := hP1
              obtain ⟨hP, hD⟩ := va_join (wc := [(ht, .inr (0, [.ref hm, .ref hs, .ref hp, .int (nI cn), .int (nI 1), .int (bI tr), .ref he, .int (nI ec), .int me])), (hs, .inr (2, [.ref hw, .int (nI bl), .int dn, .int lf])), (hw, .inl (cI, 40, .inl M)), (hp, .inl (cI, 119, .inl pk))]) (wr := []) (w1 := [(ht, .inr (0, [.ref hm, .ref hs, .ref hp, .int (nI cn), .int (nI 1), .int (bI tr), .ref he, .int (nI ec), .int me])), (hs, .inr (2, [.ref hw, .int (nI bl), .int dn_8, .int lf_8])), (hw, .inl (cI, 40, .inl M_8)), (hp, .inl (cI, 119, .inl pk))]) hP hD [0, 1, 2, 3] [] rfl rfl (by decide) (by decide) zk hFc hP1 hD1
              generalize H1 = H at hP hS ⊢
              have hP : va_P (dC, dI) classes [(ht, .inr (0, [.ref hm, .ref hs, .ref hp, .int (nI cn), .int (nI 1), .int (bI tr), .ref he, .int (nI ec), .int me])), (hs, .inr (2, [.ref hw, .int (nI bl), .int dn_8, .int lf_8])), (hw, .inl (cI, 40, .inl M_8)), (hp, .inl (cI, 119, .inl pk))] H := hP.sub [0, 1, 2, 3] rfl
              have hD : va_D A [(ht, .inr (0, [.ref hm, .ref hs, .ref hp, .int (nI cn), .int (nI 1), .int (bI tr), .ref he, .int (nI ec), .int me])), (hs, .inr (2, [.ref hw, .int (nI bl), .int dn_8, .int lf_8])), (hw, .inl (cI, 40, .inl M_8)), (hp, .inl (cI, 119, .inl pk))] := hD.sub [0, 1, 2, 3] (by decide) rfl
              clear hPc hDc hFc hP1 hD1 zk zz zvm zt
              refine bz_eq (tgt := 70) hx hb d_TS_update_63 (by decide) (fun h_9 => ?_) (fun h_9 => ?_)
              · subst h_9
                refine lv_aload_n hx hb d_TS_update_70 rfl (lv_at hl 1 rfl) ?_
                have hPc := hP.sub (ws' := [(ht, .inr (0, [.ref hm, .ref hs, .ref hp, .int (nI cn), .int (nI 1), .int (bI tr), .ref he, .int (nI ec), .int me]))]) [0] rfl
                have hDc := hD.sub (ws' := [(ht, .inr (0, [.ref hm, .ref hs, .ref hp, .int (nI cn), .int (nI 1), .int (bI tr), .ref he, .int (nI ec), .int me]))]) [0] (by decide) rfl
                have hFc := va_free (wc := [(ht, .inr (0, [.ref hm, .ref hs, .ref hp, .int (nI cn), .int (nI 1), .int (bI tr), .ref he, .int (nI ec), .int me]))]) hD hS hA [0] rfl
                refine va_calli (va_runV (As := []) (rest := []) ⟨hx, hb, hml, hown, hts⟩ (c_TS_powerLost l dC dI cI (ht := ht) (hm := hm) (hs := hs) (hp := hp) (cn := cn) (rn := (nI 1)) (tr := tr) (he := he) (ec := ec) (me := me)  (sz := H.size)) ⟨callB_of 0 hts (gd kw_293) rfl rfl rfl (hts _ kw_35) (hts _ kw_290) (by decide +kernel) ⟨Nat.le_of_ble_eq_true rfl, Nat.le_of_ble_eq_true rfl⟩, (hts _ kw_292), (hts _ kw_9)⟩ ⟨fun a U g mk q => by obtain ⟨q0, q1, qP, qK, qD⟩ := q; exact ⟨q0, q1, qP, qK.call, qD⟩, va_recv hK hP (ci := 0) rfl (q0 := 0) rfl, fun U hU hW => ⟨rfl, by rw [hU], by rw [hU]; exact hPc, hKN.warm hW, hDc.weaken (fun _ _ _ _ => trivial)⟩⟩ rfl rfl hl.1 rfl (lv_room (Nat.le_of_ble_eq_true rfl)) d_TS_update_71 ⟨Nat.zero_le _, Nat.zero_le _⟩) hS (fun q _ h => hFc q h) hFc (fun r u t H1 locs zt zvm zw zB zz zk hS => ?_)
                obtain ⟨rn_10, tr_10, ec_10, me_10⟩ := u
                obtain ⟨r_10, rfl⟩ : ∃ z, z = r := ⟨_, rfl⟩
                have hu_10 := zw
                simp only [Prod.mk.injEq] at hu_10
                obtain ⟨rfl, rfl, rfl, rfl, rfl⟩ := hu_10
                obtain ⟨hP1, hD1⟩ := zB
                rw [zt] at hP1
                have hP1 : va_P (dC, dI) classes [(ht, .inr (0, [.ref hm, .ref hs, .ref hp, .int (nI cn), .int (-1), .int (bI false), .ref he, .int (nI 0), .int (nI 0)]))] H1 := hP1
                obtain ⟨hP, hD⟩ := va_join (wc := [(ht, .inr (0, [.ref hm, .ref hs, .ref hp, .int (nI cn), .int (nI 1), .int (bI tr), .ref he, .int (nI ec), .int me]))]) (wr := [(hs, .inr (2, [.ref hw, .int (nI bl), .int dn_8, .int lf_8])), (hw, .inl (cI, 40, .inl M_8)), (hp, .inl (cI, 119, .inl pk))]) (w1 := [(ht, .inr (0, [.ref hm, .ref hs, .ref hp, .int (nI cn), .int (-1), .int (bI false), .ref he, .int (nI 0), .int (nI 0)]))]) hP hD [0] [1, 2, 3] rfl rfl (by decide) (by decide) zk hFc hP1 hD1
                generalize H1 = H at hP hS ⊢
                have hP : va_P (dC, dI) classes [(ht, .inr (0, [.ref hm, .ref hs, .ref hp, .int (nI cn), .int (-1), .int (bI false), .ref he, .int (nI 0), .int (nI 0)])), (hs, .inr (2, [.ref hw, .int (nI bl), .int dn_8, .int lf_8])), (hw, .inl (cI, 40, .inl M_8)), (hp, .inl (cI, 119, .inl pk))] H := hP.sub [3, 0, 1, 2] rfl
                have hD : va_D A [(ht, .inr (0, [.ref hm, .ref hs, .ref hp, .int (nI cn), .int (-1), .int (bI false), .ref he, .int (nI 0), .int (nI 0)])), (hs, .inr (2, [.ref hw, .int (nI bl), .int dn_8, .int lf_8])), (hw, .inl (cI, 40, .inl M_8)), (hp, .inl (cI, 119, .inl pk))] := hD.sub [3, 0, 1, 2] (by decide) rfl
                clear hPc hDc hFc hP1 hD1 zk zz zvm zt
                exact W.iret (v := (-1)) hx hb hr (fun t ht hW => ⟨⟨(-1), ((-1), false, 0, (nI 0), M_8, dn_8, lf_8), rfl, (by rw [upD, hjp, nI_clamp (by omega)]; simp only [upL, kept_1, h_1, if_neg h_2, h_3, if_neg h_4, hu_8, eq_self, reduceCtorEq, if_true, if_false, Nat.reduceSub]), by rw [ht]; exact hP, hD⟩, hS.F ht⟩) hS.2.2 d_TS_update_74
              · subst h_9
                refine lv_iconst (v := (nI 0)) hx hb d_TS_update_66 (by decide) ?_
                refine lv_goto (tgt := 74) hx hb d_TS_update_67 (by decide) ?_
                exact W.iret (v := (nI 0)) hx hb hr (fun t ht hW => ⟨⟨(nI 0), ((nI 1), tr, ec, me, M_8, dn_8, lf_8), rfl, (by rw [upD, hjp, nI_clamp (by omega)]; simp only [upL, kept_1, h_1, if_neg h_2, h_3, if_neg h_4, hu_8, eq_self, reduceCtorEq, if_true, if_false, Nat.reduceSub]), by rw [ht]; exact hP, hD⟩, hS.F ht⟩) hS.2.2 d_TS_update_74
          · refine lv_aload_n hx hb d_TS_update_34 rfl (lv_at hl 0 rfl) ?_
            refine va_get (D := (dC, dI)) (ci := 0) (v := .ref hs) (C := R_TS) (T := F_TS) (N := 9) hx hb hts in_TS hown hK hP 0 rfl rfl 1 (by decide) (hts _ kw_143) (fun _ h9 => h9) rfl d_TS_update_35 ?_
            refine pr_call (va_runV (As := []) (rest := []) ⟨hx, hb, hml, hown, hts⟩ (c_St_entry l dC dI cI (hs := hs) (hw := hw) (bl := bl) (dn := dn) (lf := lf) (M := M) ) ⟨callB_of 0 hts (gd kw_243) rfl rfl rfl (hts _ kw_39) (hts _ kw_240) (by decide +kernel) ⟨Nat.le_of_ble_eq_true rfl, Nat.le_of_ble_eq_true rfl⟩, (hts _ kw_241), (hts _ kw_242)⟩ ⟨fun a U g mk q => by obtain ⟨q0, qP, qK⟩ := q; exact ⟨q0, qP, qK.call⟩, va_recv hK hP (ci := 2) rfl (q0 := 1) rfl, fun U hU hW => ⟨rfl, by rw [hU]; exact hP.sub [1, 2] rfl, hKN.warm hW⟩⟩ rfl rfl hl.1 rfl (lv_room (Nat.le_of_ble_eq_true rfl)) d_TS_update_38 ⟨Nat.zero_le _, Nat.zero_le _⟩) ?_
            refine pr_call (va_runS (As := [.int (ety M)]) (rest := []) ⟨hx, hb, hml, hown, hts⟩ (c_Tb_homeIn l dC dI cI (en := ety M) ) ⟨callB_of 1 hts (gd kw_257) rfl rfl rfl (hts _ kw_42) (hts _ kw_255) (by decide +kernel) ⟨Nat.le_of_ble_eq_true rfl, Nat.le_of_ble_eq_true rfl⟩, (hts _ kw_256)⟩ ⟨fun a U g mk q => by obtain ⟨q0, qP, qK⟩ := q; exact ⟨q0, qP, qK.call⟩, fun U hU hW => ⟨rfl, by rw [hU]; exact hP.sub [] rfl, hKN.warm hW⟩⟩ rfl rfl hl.1 rfl (lv_room (Nat.le_of_ble_eq_true rfl)) d_TS_update_41 ⟨Nat.zero_le _, Nat.zero_le _⟩) ?_
            refine lv_goto (tgt := 51) hx hb d_TS_update_44 (by decide) ?_
            have ghm := hom_lt (ety M)
            refine lv_istore_n (lv' := [(2, .int (nI (hom (ety M)))), (0, .ref ht), (1, .int (nI j))]) hx hb d_TS_update_51 rfl hl (by decide) rfl (fun ls hl => ?_)
            refine lv_aload_n hx hb d_TS_update_52 rfl (lv_at hl 1 rfl) ?_
            refine lv_iconst (v := (nI 1)) hx hb d_TS_update_53 (by decide) ?_
            refine lv_iload_n hx hb d_TS_update_54 rfl (lv_at hl 0 rfl) ?_
            refine lv_isub hx hb d_TS_update_55 ?_
            refine tp (pk_sub (by omega)) ?_
            refine lv_iload_n hx hb d_TS_update_56 rfl (lv_at hl 2 rfl) ?_
            refine pr_call (va_runS (As := [.int (nI j)]) (rest := [.int (nI (1 - (hom (ety M)))), .ref ht]) ⟨hx, hb, hml, hown, hts⟩ (c_TS_packagePlace l dC dI cI (k := j) ) ⟨callB_of 1 hts (gd kw_191) rfl rfl rfl (hts _ kw_35) (hts _ kw_189) (by decide +kernel) ⟨Nat.le_of_ble_eq_true rfl, Nat.le_of_ble_eq_true rfl⟩, (hts _ kw_190)⟩ ⟨fun a U g mk q => by obtain ⟨q0, qP, qK⟩ := q; exact ⟨q0, qP, qK.call⟩, fun U hU hW => ⟨rfl, by rw [hU]; exact hP.sub [] rfl, hKN.warm hW⟩⟩ rfl rfl hl.1 rfl (lv_room (Nat.le_of_ble_eq_true rfl)) d_TS_update_57 ⟨Nat.zero_le _, Nat.zero_le _⟩) ?_
            have hPc := hP.sub (ws' := [(ht, .inr (0, [.ref hm, .ref hs, .ref hp, .int (nI cn), .int rn, .int (bI tr), .ref he, .int (nI ec), .int me])), (hs, .inr (2, [.ref hw, .int (nI bl), .int dn, .int lf])), (hw, .inl (cI, 40, .inl M)), (hp, .inl (cI, 119, .inl pk))]) [0, 1, 2, 3] rfl
            have hDc := hD.sub (ws' := [(ht, .inr (0, [.ref hm, .ref hs, .ref hp, .int (nI cn), .int rn, .int (bI tr), .ref he, .int (nI ec), .int me])), (hs, .inr (2, [.ref hw, .int (nI bl), .int dn, .int lf])), (hw, .inl (cI, 40, .inl M)), (hp, .inl (cI, 119, .inl pk))]) [0, 1, 2, 3] (by decide) rfl
            have hFc := va_free (wc := [(ht, .inr (0, [.ref hm, .ref hs, .ref hp, .int (nI cn), .int rn, .int (bI tr), .ref he, .int (nI ec), .int me])), (hs, .inr (2, [.ref hw, .int (nI bl), .int dn, .int lf])), (hw, .inl (cI, 40, .inl M)), (hp, .inl (cI, 119, .inl pk))]) hD hS hA [0, 1, 2, 3] rfl
            refine va_calli (va_runV (As := [.int (nI (1 - (hom (ety M)))), .int (nI (j * 17))]) (rest := []) ⟨hx, hb, hml, hown, hts⟩ (c_TS_replace l dC dI cI (ht := ht) (k := 1 - (hom (ety M))) (b := j * 17) (hm := hm) (hs := hs) (hp := hp) (cn := cn) (rn := rn) (tr := tr) (he := he) (ec := ec) (me := me) (hw := hw) (bl := bl) (dn := dn) (lf := lf) (M := M) (pk := pk) (hk := (by omega)) (hb119 := (by omega)) (sz := s.heap.size)) ⟨callB_of 2 hts (gd kw_261) rfl rfl rfl (hts _ kw_35) (hts _ kw_258) (by decide +kernel) ⟨Nat.le_of_ble_eq_true rfl, Nat.le_of_ble_eq_true rfl⟩, (hts _ kw_260), (hts _ kw_6)⟩ ⟨fun a U g mk q => by obtain ⟨q0, q1, qP, qK, qD⟩ := q; exact ⟨q0, q1, qP, qK.call, qD⟩, va_recv hK hP (ci := 0) rfl (q0 := 0) rfl, fun U hU hW => ⟨rfl, by rw [hU], by rw [hU]; exact hPc, hKN.warm hW, hDc.weaken (fun _ _ _ _ => trivial)⟩⟩ rfl rfl hl.1 rfl (lv_room (Nat.le_of_ble_eq_true rfl)) d_TS_update_60 ⟨Nat.zero_le _, Nat.zero_le _⟩) hS (fun q _ h => hFc q h) hFc (fun r u t H1 locs zt zvm zw zB zz zk hS => ?_)
            obtain ⟨M_11, dn_11, lf_11⟩ := u
            obtain ⟨b_11, rfl, hu_11⟩ := zw
            obtain ⟨hP1, hD1⟩ := zB
            rw [zt] at hP1
            have hP1 : va_P (dC, dI) classes [(ht, .inr (0, [.ref hm, .ref hs, .ref hp, .int (nI cn), .int rn, .int (bI tr), .ref he, .int (nI ec), .int me])), (hs, .inr (2, [.ref hw, .int (nI bl), .int dn_11, .int lf_11])), (hw, .inl (cI, 40, .inl M_11)), (hp, .inl (cI, 119, .inl pk))] H1 := hP1
            obtain ⟨hP, hD⟩ := va_join (wc := [(ht, .inr (0, [.ref hm, .ref hs, .ref hp, .int (nI cn), .int rn, .int (bI tr), .ref he, .int (nI ec), .int me])), (hs, .inr (2, [.ref hw, .int (nI bl), .int dn, .int lf])), (hw, .inl (cI, 40, .inl M)), (hp, .inl (cI, 119, .inl pk))]) (wr := []) (w1 := [(ht, .inr (0, [.ref hm, .ref hs, .ref hp, .int (nI cn), .int rn, .int (bI tr), .ref he, .int (nI ec), .int me])), (hs, .inr (2, [.ref hw, .int (nI bl), .int dn_11, .int lf_11])), (hw, .inl (cI, 40, .inl M_11)), (hp, .inl (cI, 119, .inl pk))]) hP hD [0, 1, 2, 3] [] rfl rfl (by decide) (by decide) zk hFc hP1 hD1
            generalize H1 = H at hP hS ⊢
            have hP : va_P (dC, dI) classes [(ht, .inr (0, [.ref hm, .ref hs, .ref hp, .int (nI cn), .int rn, .int (bI tr), .ref he, .int (nI ec), .int me])), (hs, .inr (2, [.ref hw, .int (nI bl), .int dn_11, .int lf_11])), (hw, .inl (cI, 40, .inl M_11)), (hp, .inl (cI, 119, .inl pk))] H := hP.sub [0, 1, 2, 3] rfl
            have hD : va_D A [(ht, .inr (0, [.ref hm, .ref hs, .ref hp, .int (nI cn), .int rn, .int (bI tr), .ref he, .int (nI ec), .int me])), (hs, .inr (2, [.ref hw, .int (nI bl), .int dn_11, .int lf_11])), (hw, .inl (cI, 40, .inl M_11)), (hp, .inl (cI, 119, .inl pk))] := hD.sub [0, 1, 2, 3] (by decide) rfl
            clear hPc hDc hFc hP1 hD1 zk zz zvm zt
            refine bz_eq (tgt := 70) hx hb d_TS_update_63 (by decide) (fun h_12 => ?_) (fun h_12 => ?_)
            · subst h_12
              refine lv_aload_n hx hb d_TS_update_70 rfl (lv_at hl 1 rfl) ?_
              have hPc := hP.sub (ws' := [(ht, .inr (0, [.ref hm, .ref hs, .ref hp, .int (nI cn), .int rn, .int (bI tr), .ref he, .int (nI ec), .int me]))]) [0] rfl
              have hDc := hD.sub (ws' := [(ht, .inr (0, [.ref hm, .ref hs, .ref hp, .int (nI cn), .int rn, .int (bI tr), .ref he, .int (nI ec), .int me]))]) [0] (by decide) rfl
              have hFc := va_free (wc := [(ht, .inr (0, [.ref hm, .ref hs, .ref hp, .int (nI cn), .int rn, .int (bI tr), .ref he, .int (nI ec), .int me]))]) hD hS hA [0] rfl
              refine va_calli (va_runV (As := []) (rest := []) ⟨hx, hb, hml, hown, hts⟩ (c_TS_powerLost l dC dI cI (ht := ht) (hm := hm) (hs := hs) (hp := hp) (cn := cn) (rn := rn) (tr := tr) (he := he) (ec := ec) (me := me)  (sz := H.size)) ⟨callB_of 0 hts (gd kw_293) rfl rfl rfl (hts _ kw_35) (hts _ kw_290) (by decide +kernel) ⟨Nat.le_of_ble_eq_true rfl, Nat.le_of_ble_eq_true rfl⟩, (hts _ kw_292), (hts _ kw_9)⟩ ⟨fun a U g mk q => by obtain ⟨q0, q1, qP, qK, qD⟩ := q; exact ⟨q0, q1, qP, qK.call, qD⟩, va_recv hK hP (ci := 0) rfl (q0 := 0) rfl, fun U hU hW => ⟨rfl, by rw [hU], by rw [hU]; exact hPc, hKN.warm hW, hDc.weaken (fun _ _ _ _ => trivial)⟩⟩ rfl rfl hl.1 rfl (lv_room (Nat.le_of_ble_eq_true rfl)) d_TS_update_71 ⟨Nat.zero_le _, Nat.zero_le _⟩) hS (fun q _ h => hFc q h) hFc (fun r u t H1 locs zt zvm zw zB zz zk hS => ?_)
              obtain ⟨rn_13, tr_13, ec_13, me_13⟩ := u
              obtain ⟨r_13, rfl⟩ : ∃ z, z = r := ⟨_, rfl⟩
              have hu_13 := zw
              simp only [Prod.mk.injEq] at hu_13
              obtain ⟨rfl, rfl, rfl, rfl, rfl⟩ := hu_13
              obtain ⟨hP1, hD1⟩ := zB
              rw [zt] at hP1
              have hP1 : va_P (dC, dI) classes [(ht, .inr (0, [.ref hm, .ref hs, .ref hp, .int (nI cn), .int (-1), .int (bI false), .ref he, .int (nI 0), .int (nI 0)]))] H1 := hP1
              obtain ⟨hP, hD⟩ := va_join (wc := [(ht, .inr (0, [.ref hm, .ref hs, .ref hp, .int (nI cn), .int rn, .int (bI tr), .ref he, .int (nI ec), .int me]))]) (wr := [(hs, .inr (2, [.ref hw, .int (nI bl), .int dn_11, .int lf_11])), (hw, .inl (cI, 40, .inl M_11)), (hp, .inl (cI, 119, .inl pk))]) (w1 := [(ht, .inr (0, [.ref hm, .ref hs, .ref hp, .int (nI cn), .int (-1), .int (bI false), .ref he, .int (nI 0), .int (nI 0)]))]) hP hD [0] [1, 2, 3] rfl rfl (by decide) (by decide) zk hFc hP1 hD1
              generalize H1 = H at hP hS ⊢
              have hP : va_P (dC, dI) classes [(ht, .inr (0, [.ref hm, .ref hs, .ref hp, .int (nI cn), .int (-1), .int (bI false), .ref he, .int (nI 0), .int (nI 0)])), (hs, .inr (2, [.ref hw, .int (nI bl), .int dn_11, .int lf_11])), (hw, .inl (cI, 40, .inl M_11)), (hp, .inl (cI, 119, .inl pk))] H := hP.sub [3, 0, 1, 2] rfl
              have hD : va_D A [(ht, .inr (0, [.ref hm, .ref hs, .ref hp, .int (nI cn), .int (-1), .int (bI false), .ref he, .int (nI 0), .int (nI 0)])), (hs, .inr (2, [.ref hw, .int (nI bl), .int dn_11, .int lf_11])), (hw, .inl (cI, 40, .inl M_11)), (hp, .inl (cI, 119, .inl pk))] := hD.sub [3, 0, 1, 2] (by decide) rfl
              clear hPc hDc hFc hP1 hD1 zk zz zvm zt
              exact W.iret (v := (-1)) hx hb hr (fun t ht hW => ⟨⟨(-1), ((-1), false, 0, (nI 0), M_11, dn_11, lf_11), rfl, (by rw [upD, hjp, nI_clamp (by omega)]; simp only [upL, kept, h_1, if_neg h_2, h_3, if_pos h_4, hu_11, eq_self, reduceCtorEq, if_true, if_false, Nat.reduceSub]), by rw [ht]; exact hP, hD⟩, hS.F ht⟩) hS.2.2 d_TS_update_74
            · subst h_12
              refine lv_iconst (v := (nI 0)) hx hb d_TS_update_66 (by decide) ?_
              refine lv_goto (tgt := 74) hx hb d_TS_update_67 (by decide) ?_
              exact W.iret (v := (nI 0)) hx hb hr (fun t ht hW => ⟨⟨(nI 0), (rn, tr, ec, me, M_11, dn_11, lf_11), rfl, (by rw [upD, hjp, nI_clamp (by omega)]; simp only [upL, kept, h_1, if_neg h_2, h_3, if_pos h_4, hu_11, eq_self, reduceCtorEq, if_true, if_false, Nat.reduceSub]), by rw [ht]; exact hP, hD⟩, hS.F ht⟩) hS.2.2 d_TS_update_74
        · refine lv_bipush (v := (-2)) hx hb d_TS_update_23 (by decide) ?_
          exact W.iret (v := (-2)) hx hb hr (fun t ht hW => ⟨⟨(-2), (rn, tr, ec, me, M, dn, lf), rfl, (by rw [upD, hjp, nI_clamp (by omega)]; simp only [upL, kept, h_1, if_neg h_2, h_3, eq_self, reduceCtorEq, if_true, if_false, Nat.reduceSub]), by rw [ht]; exact hP, hD⟩, hS.F ht⟩) hS.2.2 d_TS_update_25
  · refine lv_aload_n hx hb d_TS_update_0 rfl (lv_at hl 0 rfl) ?_
    refine lv_iload_n hx hb d_TS_update_1 rfl (lv_at hl 1 rfl) ?_
    refine pr_call (va_runV (As := [.int v]) (rest := []) ⟨hx, hb, hml, hown, hts⟩ (c_TS_isPackage l dC dI cI (ht := ht) (v := v) (hm := hm) (hs := hs) (hp := hp) (cn := cn) (rn := rn) (tr := tr) (he := he) (ec := ec) (me := me) ) ⟨callB_of 1 hts (gd kw_203) rfl rfl rfl (hts _ kw_35) (hts _ kw_200) (by decide +kernel) ⟨Nat.le_of_ble_eq_true rfl, Nat.le_of_ble_eq_true rfl⟩, (hts _ kw_202), (hts _ kw_3)⟩ ⟨fun a U g mk q => by obtain ⟨q0, qP, qK⟩ := q; exact ⟨q0, qP, qK.call⟩, va_recv hK hP (ci := 0) rfl (q0 := 0) rfl, fun U hU hW => ⟨rfl, by rw [hU]; exact hP.sub [0] rfl, hKN.warm hW⟩⟩ rfl rfl hl.1 rfl (lv_room (Nat.le_of_ble_eq_true rfl)) d_TS_update_2 ⟨Nat.zero_le _, Nat.zero_le _⟩) ?_
    refine bz_eq (tgt := 23) hx hb d_TS_update_5 (by decide) (fun h_14 => ?_) (fun h_14 => ?_)
    · refine lv_bipush (v := (-2)) hx hb d_TS_update_23 (by decide) ?_
      exact W.iret (v := (-2)) hx hb hr (fun t ht hW => ⟨⟨(-2), (rn, tr, ec, me, M, dn, lf), rfl, (by rw [upD, hbad]; rfl), by rw [ht]; exact hP, hD⟩, hS.F ht⟩) hS.2.2 d_TS_update_25
    · simp [hbad] at h_14
set_option maxHeartbeats 4000000 in
set_option maxRecDepth 100000 in
theorem c_TS_confirm (l : Launch) (dC : Nat → ClassId) (dI : Nat → Nat → Nat) (cI : ClassId) (ht : Nat) (hm : Nat) (hs : Nat) (hp : Nat) (cn : Nat) (rn : Int32) (tr : Bool) (he : Nat) (ec : Nat) (me : Int32) (hw : Nat) (bl : Nat) (dn : Int32) (lf : Int32) (M : Nat → Int32) (hbl : bl ≤ 32) (htr : tr = true → rn = nI 0 ∨ rn = nI 1) (sz : Nat) : Met l y_TS_confirm w_TS_confirm ({ frames := 5, cells := 0, slots := 0, locals := 112 }) (va_Pc [.ref ht] (fun U => U.heap.size = sz ∧ va_P (dC, dI) classes [(ht, .inr (0, [.ref hm, .ref hs, .ref hp, .int (nI cn), .int rn, .int (bI tr), .ref he, .int (nI ec), .int me])), (hs, .inr (2, [.ref hw, .int (nI bl), .int dn, .int lf])), (hw, .inl (cI, 40, .inl M))] U.heap ∧ KN dC dI cI U ∧ va_D (fun _ => True) [(ht, .inr (0, [.ref hm, .ref hs, .ref hp, .int (nI cn), .int rn, .int (bI tr), .ref he, .int (nI ec), .int me])), (hs, .inr (2, [.ref hw, .int (nI bl), .int dn, .int lf])), (hw, .inl (cI, 40, .inl M))])) (va_Qi (fun (r : Int32) (u : Int32 × Bool × Nat × Int32 × (Nat → Int32) × Nat × Int32 × Int32) => cfC rn tr ec me M bl dn lf = (r, u)) (fun (u : Int32 × Bool × Nat × Int32 × (Nat → Int32) × Nat × Int32 × Int32) t => va_P (dC, dI) classes [(ht, .inr (0, [.ref hm, .ref hs, .ref hp, .int (nI cn), .int u.1, .int (bI u.2.1), .ref he, .int (nI u.2.2.1), .int u.2.2.2.1])), (hs, .inr (2, [.ref hw, .int (nI u.2.2.2.2.2.1), .int u.2.2.2.2.2.2.1, .int u.2.2.2.2.2.2.2])), (hw, .inl (cI, 40, .inl u.2.2.2.2.1))] t.heap ∧ va_D (va_A [(ht, .inr (0, [.ref hm, .ref hs, .ref hp, .int (nI cn), .int rn, .int (bI tr), .ref he, .int (nI ec), .int me])), (hs, .inr (2, [.ref hw, .int (nI bl), .int dn, .int lf])), (hw, .inl (cI, 40, .inl M))] sz) [(ht, .inr (0, [.ref hm, .ref hs, .ref hp, .int (nI cn), .int u.1, .int (bI u.2.1), .ref he, .int (nI u.2.2.1), .int u.2.2.2.1])), (hs, .inr (2, [.ref hw, .int (nI u.2.2.2.2.2.1), .int u.2.2.2.2.2.2.1, .int u.2.2.2.2.2.2.2])), (hw, .inl (cI, 40, .inl u.2.2.2.2.1))]) (va_A [(ht, .inr (0, [.ref hm, .ref hs, .ref hp, .int (nI cn), .int rn, .int (bI tr), .ref he, .int (nI ec), .int me])), (hs, .inr (2, [.ref hw, .int (nI bl), .int dn, .int lf])), (hw, .inl (cI, 40, .inl M))] sz)) 0 0 (va_A [(ht, .inr (0, [.ref hm, .ref hs, .ref hp, .int (nI cn), .int rn, .int (bI tr), .ref he, .int (nI ec), .int me])), (hs, .inr (2, [.ref hw, .int (nI bl), .int dn, .int lf])), (hw, .inl (cI, 40, .inl M))] sz) := by
  refine Met.ofW (cc := b_TS_confirm) (maxL := 3) (ret := (some .int)) (by decide) rfl ?_
  intro p e s m args below meth c s₁ B hml hv
  obtain ⟨rfl, hsz, hP, hKN, hD0⟩ := hv
  have hK := hKN.1
  have hx := B.exec
  have hb := B.bytes
  have hr := B.returns
  have hts := fun (w : Cond) (h : w ∈ gt) => atoms_spec (ws := w_TS_confirm) B.pre w (List.mem_cons_of_mem _ h)
  have hown : s.vm.findClass R_TS = some m.cls := findClass_of_methodNamed B.named
  have hlocks := B.notSynchronized
  subst hsz
  have hD := hD0.self (sz := s.heap.size)
  generalize hAe : va_A [(ht, .inr (0, [.ref hm, .ref hs, .ref hp, .int (nI cn), .int rn, .int (bI tr), .ref he, .int (nI ec), .int me])), (hs, .inr (2, [.ref hw, .int (nI bl), .int dn, .int lf])), (hw, .inl (cI, 40, .inl M))] s.heap.size = A at hD ⊢
  have hA : ∀ q : Nat, s.heap.size ≤ q → A q := fun q h => by rw [← hAe]; exact Or.inr h
  have hS : va_S A s.heap s.heap [] := va_S.rf
  have hP : va_P (dC, dI) classes [(ht, .inr (0, [.ref hm, .ref hs, .ref hp, .int (nI cn), .int rn, .int (bI tr), .ref he, .int (nI ec), .int me])), (hs, .inr (2, [.ref hw, .int (nI bl), .int dn, .int lf])), (hw, .inl (cI, 40, .inl M))] s.heap := hP
  clear hAe hD0
  have hl := lv_entry ([.ref ht]) (n := 3) (Nat.le_of_ble_eq_true rfl)
  rw [lg_entry_eq]
  generalize (lg_sl ([.ref ht]) ++ List.replicate (3 - (lg_sl ([.ref ht])).length) Slot.unset).toArray = ls at hl ⊢
  have hl : lv_has ls 3 [(0, .ref ht)] := hl
  rcases cf_or htr with rfl | ⟨rfl, rfl⟩ | ⟨rfl, rfl⟩
  · refine lv_aload_n hx hb d_TS_confirm_0 rfl (lv_at hl 0 rfl) ?_
    refine va_get (D := (dC, dI)) (ci := 0) (v := .int (bI false)) (C := R_TS) (T := F_TS) (N := 9) hx hb hts in_TS hown hK hP 0 rfl rfl 5 (by decide) (hts _ kw_147) (fun _ h9 => h9) rfl d_TS_confirm_1 ?_
    refine bz_ne (tgt := 10) hx hb d_TS_confirm_4 (by decide) (fun h_1 => ?_) (fun h_1 => ?_)
    · exact absurd h_1 (by decide)
    · refine lv_bipush (v := (-2)) hx hb d_TS_confirm_7 (by decide) ?_
      exact W.iret (v := (-2)) hx hb hr (fun t ht hW => ⟨⟨(-2), (rn, false, ec, me, M, bl, dn, lf), rfl, (by rfl), by rw [ht]; exact hP, hD⟩, hS.F ht⟩) hS.2.2 d_TS_confirm_9
  · refine lv_aload_n hx hb d_TS_confirm_0 rfl (lv_at hl 0 rfl) ?_
    refine va_get (D := (dC, dI)) (ci := 0) (v := .int (bI true)) (C := R_TS) (T := F_TS) (N := 9) hx hb hts in_TS hown hK hP 0 rfl rfl 5 (by decide) (hts _ kw_147) (fun _ h9 => h9) rfl d_TS_confirm_1 ?_
    refine bz_ne (tgt := 10) hx hb d_TS_confirm_4 (by decide) (fun h_2 => ?_) (fun h_2 => ?_)
    · refine lv_aload_n hx hb d_TS_confirm_10 rfl (lv_at hl 0 rfl) ?_
      refine va_get (D := (dC, dI)) (ci := 0) (v := .ref hs) (C := R_TS) (T := F_TS) (N := 9) hx hb hts in_TS hown hK hP 0 rfl rfl 1 (by decide) (hts _ kw_143) (fun _ h9 => h9) rfl d_TS_confirm_11 ?_
      refine pr_call (va_runV (As := []) (rest := []) ⟨hx, hb, hml, hown, hts⟩ (c_St_entry l dC dI cI (hs := hs) (hw := hw) (bl := bl) (dn := dn) (lf := lf) (M := M) ) ⟨callB_of 0 hts (gd kw_243) rfl rfl rfl (hts _ kw_39) (hts _ kw_240) (by decide +kernel) ⟨Nat.le_of_ble_eq_true rfl, Nat.le_of_ble_eq_true rfl⟩, (hts _ kw_241), (hts _ kw_242)⟩ ⟨fun a U g mk q => by obtain ⟨q0, qP, qK⟩ := q; exact ⟨q0, qP, qK.call⟩, va_recv hK hP (ci := 2) rfl (q0 := 1) rfl, fun U hU hW => ⟨rfl, by rw [hU]; exact hP.sub [1, 2] rfl, hKN.warm hW⟩⟩ rfl rfl hl.1 rfl (lv_room (Nat.le_of_ble_eq_true rfl)) d_TS_confirm_14 ⟨Nat.zero_le _, Nat.zero_le _⟩) ?_
      refine lv_aload_n hx hb d_TS_confirm_17 rfl (lv_at hl 0 rfl) ?_
      refine va_get (D := (dC, dI)) (ci := 0) (v := .int (nI 0)) (C := R_TS) (T := F_TS) (N := 9) hx hb hts in_TS hown hK hP 0 rfl rfl 4 (by decide) (hts _ kw_146) (fun _ h9 => h9) rfl d_TS_confirm_18 ?_
      refine lv_iconst (v := (nI 3)) hx hb d_TS_confirm_21 (by decide) ?_
      refine pr_call (va_runS (As := [.int (ety M), .int (nI 0), .int (nI 3)]) (rest := []) ⟨hx, hb, hml, hown, hts⟩ (c_Tb_withState l dC dI cI (en := ety M) (k := 0) (v := 3) ) ⟨callB_of 3 hts (gd kw_264) rfl rfl rfl (hts _ kw_42) (hts _ kw_262) (by decide +kernel) ⟨Nat.le_of_ble_eq_true rfl, Nat.le_of_ble_eq_true rfl⟩, (hts _ kw_263)⟩ ⟨fun a U g mk q => by obtain ⟨q0, qP, qK⟩ := q; exact ⟨q0, qP, qK.call⟩, fun U hU hW => ⟨rfl, by rw [hU]; exact hP.sub [] rfl, hKN.warm hW⟩⟩ rfl rfl hl.1 rfl (lv_room (Nat.le_of_ble_eq_true rfl)) d_TS_confirm_22 ⟨Nat.zero_le _, Nat.zero_le _⟩) ?_
      refine lv_istore_n (lv' := [(1, .int (wst (ety M) 0 3)), (0, .ref ht)]) hx hb d_TS_confirm_25 rfl hl (by decide) rfl (fun ls hl => ?_)
      refine lv_aload_n hx hb d_TS_confirm_26 rfl (lv_at hl 1 rfl) ?_
      refine va_get (D := (dC, dI)) (ci := 0) (v := .ref hs) (C := R_TS) (T := F_TS) (N := 9) hx hb hts in_TS hown hK hP 0 rfl rfl 1 (by decide) (hts _ kw_143) (fun _ h9 => h9) rfl d_TS_confirm_27 ?_
      refine lv_iload_n hx hb d_TS_confirm_30 rfl (lv_at hl 0 rfl) ?_
      refine lv_aload_n hx hb d_TS_confirm_31 rfl (lv_at hl 1 rfl) ?_
      refine va_get (D := (dC, dI)) (ci := 0) (v := .int (nI 0)) (C := R_TS) (T := F_TS) (N := 9) hx hb hts in_TS hown hK hP 0 rfl rfl 4 (by decide) (hts _ kw_146) (fun _ h9 => h9) rfl d_TS_confirm_32 ?_
      refine pr_call (va_runS (As := [.int (wst (ety M) 0 3), .int (nI 0)]) (rest := [.ref hs]) ⟨hx, hb, hml, hown, hts⟩ (c_Tb_withHome l dC dI cI (en := wst (ety M) 0 3) (k := 0) ) ⟨callB_of 2 hts (gd kw_270) rfl rfl rfl (hts _ kw_42) (hts _ kw_268) (by decide +kernel) ⟨Nat.le_of_ble_eq_true rfl, Nat.le_of_ble_eq_true rfl⟩, (hts _ kw_269)⟩ ⟨fun a U g mk q => by obtain ⟨q0, qP, qK⟩ := q; exact ⟨q0, qP, qK.call⟩, fun U hU hW => ⟨rfl, by rw [hU]; exact hP.sub [] rfl, hKN.warm hW⟩⟩ rfl rfl hl.1 rfl (lv_room (Nat.le_of_ble_eq_true rfl)) d_TS_confirm_35 ⟨Nat.zero_le _, Nat.zero_le _⟩) ?_
      have hPc := hP.sub (ws' := [(hs, .inr (2, [.ref hw, .int (nI bl), .int dn, .int lf])), (hw, .inl (cI, 40, .inl M))]) [1, 2] rfl
      have hDc := hD.sub (ws' := [(hs, .inr (2, [.ref hw, .int (nI bl), .int dn, .int lf])), (hw, .inl (cI, 40, .inl M))]) [1, 2] (by decide) rfl
      have hFc := va_free (wc := [(hs, .inr (2, [.ref hw, .int (nI bl), .int dn, .int lf])), (hw, .inl (cI, 40, .inl M))]) hD hS hA [1, 2] rfl
      refine va_calli (va_runV (As := [.int (who (wst (ety M) 0 3) 0)]) (rest := []) ⟨hx, hb, hml, hown, hts⟩ (c_St_writeTable l dC dI cI (hs := hs) (en := who (wst (ety M) 0 3) 0) (hw := hw) (bl := bl) (dn := dn) (lf := lf) (M := M)  (sz := s.heap.size)) ⟨callB_of 1 hts (gd kw_274) rfl rfl rfl (hts _ kw_39) (hts _ kw_271) (by decide +kernel) ⟨Nat.le_of_ble_eq_true rfl, Nat.le_of_ble_eq_true rfl⟩, (hts _ kw_272), (hts _ kw_273)⟩ ⟨fun a U g mk q => by obtain ⟨q0, q1, qP, qK, qD⟩ := q; exact ⟨q0, q1, qP, qK.call, qD⟩, va_recv hK hP (ci := 2) rfl (q0 := 1) rfl, fun U hU hW => ⟨rfl, by rw [hU], by rw [hU]; exact hPc, hKN.warm hW, hDc.weaken (fun _ _ _ _ => trivial)⟩⟩ rfl rfl hl.1 rfl (lv_room (Nat.le_of_ble_eq_true rfl)) d_TS_confirm_38 ⟨Nat.zero_le _, Nat.zero_le _⟩) hS (fun q _ h => hFc q h) hFc (fun r u t H1 locs zt zvm zw zB zz zk hS => ?_)
      obtain ⟨M_3, dn_3, lf_3⟩ := u
      obtain ⟨b_3, rfl, hu_3⟩ := zw
      obtain ⟨hP1, hD1⟩ := zB
      rw [zt] at hP1
      have hP1 : va_P (dC, dI) classes [(hs, .inr (2, [.ref hw, .int (nI bl), .int dn_3, .int lf_3])), (hw, .inl (cI, 40, .inl M_3))] H1 := hP1
      obtain ⟨hP, hD⟩ := va_join (wc := [(hs, .inr (2, [.ref hw, .int (nI bl), .int dn, .int lf])), (hw, .inl (cI, 40, .inl M))]) (wr := [(ht, .inr (0, [.ref hm, .ref hs, .ref hp, .int (nI cn), .int (nI 0), .int (bI true), .ref he, .int (nI ec), .int me]))]) (w1 := [(hs, .inr (2, [.ref hw, .int (nI bl), .int dn_3, .int lf_3])), (hw, .inl (cI, 40, .inl M_3))]) hP hD [1, 2] [0] rfl rfl (by decide) (by decide) zk hFc hP1 hD1
      generalize H1 = H at hP hS ⊢
      have hP : va_P (dC, dI) classes [(ht, .inr (0, [.ref hm, .ref hs, .ref hp, .int (nI cn), .int (nI 0), .int (bI true), .ref he, .int (nI ec), .int me])), (hs, .inr (2, [.ref hw, .int (nI bl), .int dn_3, .int lf_3])), (hw, .inl (cI, 40, .inl M_3))] H := hP.sub [0, 1, 2] rfl
      have hD : va_D A [(ht, .inr (0, [.ref hm, .ref hs, .ref hp, .int (nI cn), .int (nI 0), .int (bI true), .ref he, .int (nI ec), .int me])), (hs, .inr (2, [.ref hw, .int (nI bl), .int dn_3, .int lf_3])), (hw, .inl (cI, 40, .inl M_3))] := hD.sub [0, 1, 2] (by decide) rfl
      clear hPc hDc hFc hP1 hD1 zk zz zvm zt
      refine bz_eq (tgt := 69) hx hb d_TS_confirm_41 (by decide) (fun h_4 => ?_) (fun h_4 => ?_)
      · subst h_4
        refine lv_iconst (v := (nI 0)) hx hb d_TS_confirm_69 (by decide) ?_
        refine lv_istore_n (lv' := [(2, .int (nI 0)), (1, .int (wst (ety M) 0 3)), (0, .ref ht)]) hx hb d_TS_confirm_70 rfl hl (by decide) rfl (fun ls hl => ?_)
        refine lv_iload_n hx hb d_TS_confirm_71 rfl (lv_at hl 0 rfl) ?_
        refine nz_ne (tgt := 80) hx hb d_TS_confirm_72 (by decide) (by decide) (fun h_5 => ?_) (fun h_5 => ?_)
        · exact absurd h_5 (by decide)
        · refine lv_aload_n hx hb d_TS_confirm_75 rfl (lv_at hl 2 rfl) ?_
          have hPc := hP.sub (ws' := [(ht, .inr (0, [.ref hm, .ref hs, .ref hp, .int (nI cn), .int (nI 0), .int (bI true), .ref he, .int (nI ec), .int me]))]) [0] rfl
          have hDc := hD.sub (ws' := [(ht, .inr (0, [.ref hm, .ref hs, .ref hp, .int (nI cn), .int (nI 0), .int (bI true), .ref he, .int (nI ec), .int me]))]) [0] (by decide) rfl
          have hFc := va_free (wc := [(ht, .inr (0, [.ref hm, .ref hs, .ref hp, .int (nI cn), .int (nI 0), .int (bI true), .ref he, .int (nI ec), .int me]))]) hD hS hA [0] rfl
          refine va_calli (va_runV (As := []) (rest := []) ⟨hx, hb, hml, hown, hts⟩ (c_TS_powerLost l dC dI cI (ht := ht) (hm := hm) (hs := hs) (hp := hp) (cn := cn) (rn := (nI 0)) (tr := true) (he := he) (ec := ec) (me := me)  (sz := H.size)) ⟨callB_of 0 hts (gd kw_293) rfl rfl rfl (hts _ kw_35) (hts _ kw_290) (by decide +kernel) ⟨Nat.le_of_ble_eq_true rfl, Nat.le_of_ble_eq_true rfl⟩, (hts _ kw_292), (hts _ kw_9)⟩ ⟨fun a U g mk q => by obtain ⟨q0, q1, qP, qK, qD⟩ := q; exact ⟨q0, q1, qP, qK.call, qD⟩, va_recv hK hP (ci := 0) rfl (q0 := 0) rfl, fun U hU hW => ⟨rfl, by rw [hU], by rw [hU]; exact hPc, hKN.warm hW, hDc.weaken (fun _ _ _ _ => trivial)⟩⟩ rfl rfl hl.1 rfl (lv_room (Nat.le_of_ble_eq_true rfl)) d_TS_confirm_76 ⟨Nat.zero_le _, Nat.zero_le _⟩) hS (fun q _ h => hFc q h) hFc (fun r u t H1 locs zt zvm zw zB zz zk hS => ?_)
          obtain ⟨rn_6, tr_6, ec_6, me_6⟩ := u
          obtain ⟨r_6, rfl⟩ : ∃ z, z = r := ⟨_, rfl⟩
          have hu_6 := zw
          simp only [Prod.mk.injEq] at hu_6
          obtain ⟨rfl, rfl, rfl, rfl, rfl⟩ := hu_6
          obtain ⟨hP1, hD1⟩ := zB
          rw [zt] at hP1
          have hP1 : va_P (dC, dI) classes [(ht, .inr (0, [.ref hm, .ref hs, .ref hp, .int (nI cn), .int (-1), .int (bI false), .ref he, .int (nI 0), .int (nI 0)]))] H1 := hP1
          obtain ⟨hP, hD⟩ := va_join (wc := [(ht, .inr (0, [.ref hm, .ref hs, .ref hp, .int (nI cn), .int (nI 0), .int (bI true), .ref he, .int (nI ec), .int me]))]) (wr := [(hs, .inr (2, [.ref hw, .int (nI bl), .int dn_3, .int lf_3])), (hw, .inl (cI, 40, .inl M_3))]) (w1 := [(ht, .inr (0, [.ref hm, .ref hs, .ref hp, .int (nI cn), .int (-1), .int (bI false), .ref he, .int (nI 0), .int (nI 0)]))]) hP hD [0] [1, 2] rfl rfl (by decide) (by decide) zk hFc hP1 hD1
          generalize H1 = H at hP hS ⊢
          have hP : va_P (dC, dI) classes [(ht, .inr (0, [.ref hm, .ref hs, .ref hp, .int (nI cn), .int (-1), .int (bI false), .ref he, .int (nI 0), .int (nI 0)])), (hs, .inr (2, [.ref hw, .int (nI bl), .int dn_3, .int lf_3])), (hw, .inl (cI, 40, .inl M_3))] H := hP.sub [2, 0, 1] rfl
          have hD : va_D A [(ht, .inr (0, [.ref hm, .ref hs, .ref hp, .int (nI cn), .int (-1), .int (bI false), .ref he, .int (nI 0), .int (nI 0)])), (hs, .inr (2, [.ref hw, .int (nI bl), .int dn_3, .int lf_3])), (hw, .inl (cI, 40, .inl M_3))] := hD.sub [2, 0, 1] (by decide) rfl
          clear hPc hDc hFc hP1 hD1 zk zz zvm zt
          exact W.iret (v := (-1)) hx hb hr (fun t ht hW => ⟨⟨(-1), ((-1), false, 0, (nI 0), M_3, bl, dn_3, lf_3), rfl, (by show cfK 0 _ _ _ _ _ _ _ = _; simp only [cfK, hu_3, eq_self, reduceCtorEq, if_true, if_false, Nat.reduceSub]), by rw [ht]; exact hP, hD⟩, hS.F ht⟩) hS.2.2 d_TS_confirm_79
      · subst h_4
        refine lv_aload_n hx hb d_TS_confirm_44 rfl (lv_at hl 1 rfl) ?_
        refine va_get (D := (dC, dI)) (ci := 0) (v := .ref hs) (C := R_TS) (T := F_TS) (N := 9) hx hb hts in_TS hown hK hP 0 rfl rfl 1 (by decide) (hts _ kw_143) (fun _ h9 => h9) rfl d_TS_confirm_45 ?_
        refine lv_aload_n hx hb d_TS_confirm_48 rfl (lv_at hl 1 rfl) ?_
        refine va_get (D := (dC, dI)) (ci := 0) (v := .ref hs) (C := R_TS) (T := F_TS) (N := 9) hx hb hts in_TS hown hK hP 0 rfl rfl 1 (by decide) (hts _ kw_143) (fun _ h9 => h9) rfl d_TS_confirm_49 ?_
        refine lv_aload_n hx hb d_TS_confirm_52 rfl (lv_at hl 1 rfl) ?_
        refine va_get (D := (dC, dI)) (ci := 0) (v := .int (nI 0)) (C := R_TS) (T := F_TS) (N := 9) hx hb hts in_TS hown hK hP 0 rfl rfl 4 (by decide) (hts _ kw_146) (fun _ h9 => h9) rfl d_TS_confirm_53 ?_
        refine pr_call (va_runV (As := [.int (nI 0)]) (rest := [.ref hs]) ⟨hx, hb, hml, hown, hts⟩ (c_St_versionIn l dC dI cI (hs := hs) (k := 0) (hw := hw) (bl := bl) (dn := dn_3) (lf := lf_3) (M := M_3) (hk := (by omega))) ⟨callB_of 1 hts (gd kw_320) rfl rfl rfl (hts _ kw_39) (hts _ kw_317) (by decide +kernel) ⟨Nat.le_of_ble_eq_true rfl, Nat.le_of_ble_eq_true rfl⟩, (hts _ kw_318), (hts _ kw_319)⟩ ⟨fun a U g mk q => by obtain ⟨q0, qP, qK⟩ := q; exact ⟨q0, qP, qK.call⟩, va_recv hK hP (ci := 2) rfl (q0 := 1) rfl, fun U hU hW => ⟨rfl, by rw [hU]; exact hP.sub [1, 2] rfl, hKN.warm hW⟩⟩ rfl rfl hl.1 rfl (lv_room (Nat.le_of_ble_eq_true rfl)) d_TS_confirm_56 ⟨Nat.zero_le _, Nat.zero_le _⟩) ?_
        have hPc := hP.sub (ws' := [(hs, .inr (2, [.ref hw, .int (nI bl), .int dn_3, .int lf_3]))]) [1] rfl
        have hDc := hD.sub (ws' := [(hs, .inr (2, [.ref hw, .int (nI bl), .int dn_3, .int lf_3]))]) [1] (by decide) rfl
        have hFc := va_free (wc := [(hs, .inr (2, [.ref hw, .int (nI bl), .int dn_3, .int lf_3]))]) hD hS hA [1] rfl
        refine va_calli (va_runV (As := [.int (M_3 (0 * 17))]) (rest := []) ⟨hx, hb, hml, hown, hts⟩ (c_St_blowUpTo l dC dI cI (hs := hs) (v := M_3 (0 * 17)) (hw := hw) (bl := bl) (dn := dn_3) (lf := lf_3) (hbl := (by omega)) (sz := H.size)) ⟨callB_of 1 hts (gd kw_341) rfl rfl rfl (hts _ kw_39) (hts _ kw_338) (by decide +kernel) ⟨Nat.le_of_ble_eq_true rfl, Nat.le_of_ble_eq_true rfl⟩, (hts _ kw_339), (hts _ kw_340)⟩ ⟨fun a U g mk q => by obtain ⟨q0, q1, qP, qK, qD⟩ := q; exact ⟨q0, q1, qP, qK.call, qD⟩, va_recv hK hP (ci := 2) rfl (q0 := 1) rfl, fun U hU hW => ⟨rfl, by rw [hU], by rw [hU]; exact hPc, hKN.warm hW, hDc.weaken (fun _ _ _ _ => trivial)⟩⟩ rfl rfl hl.1 rfl (lv_room (Nat.le_of_ble_eq_true rfl)) d_TS_confirm_59 ⟨Nat.zero_le _, Nat.zero_le _⟩) hS (fun q _ h => hFc q h) hFc (fun r u t H1 locs zt zvm zw zB zz zk hS => ?_)
        obtain ⟨bl_7, dn_7, lf_7⟩ := u
        obtain ⟨b_7, rfl, hu_7⟩ := zw
        obtain ⟨hP1, hD1⟩ := zB
        rw [zt] at hP1
        have hP1 : va_P (dC, dI) classes [(hs, .inr (2, [.ref hw, .int (nI bl_7), .int dn_7, .int lf_7]))] H1 := hP1
        obtain ⟨hP, hD⟩ := va_join (wc := [(hs, .inr (2, [.ref hw, .int (nI bl), .int dn_3, .int lf_3]))]) (wr := [(ht, .inr (0, [.ref hm, .ref hs, .ref hp, .int (nI cn), .int (nI 0), .int (bI true), .ref he, .int (nI ec), .int me])), (hw, .inl (cI, 40, .inl M_3))]) (w1 := [(hs, .inr (2, [.ref hw, .int (nI bl_7), .int dn_7, .int lf_7]))]) hP hD [1] [0, 2] rfl rfl (by decide) (by decide) zk hFc hP1 hD1
        generalize H1 = H at hP hS ⊢
        have hP : va_P (dC, dI) classes [(ht, .inr (0, [.ref hm, .ref hs, .ref hp, .int (nI cn), .int (nI 0), .int (bI true), .ref he, .int (nI ec), .int me])), (hs, .inr (2, [.ref hw, .int (nI bl_7), .int dn_7, .int lf_7])), (hw, .inl (cI, 40, .inl M_3))] H := hP.sub [0, 2, 1] rfl
        have hD : va_D A [(ht, .inr (0, [.ref hm, .ref hs, .ref hp, .int (nI cn), .int (nI 0), .int (bI true), .ref he, .int (nI ec), .int me])), (hs, .inr (2, [.ref hw, .int (nI bl_7), .int dn_7, .int lf_7])), (hw, .inl (cI, 40, .inl M_3))] := hD.sub [0, 2, 1] (by decide) rfl
        clear hPc hDc hFc hP1 hD1 zk zz zvm zt
        refine bz_eq (tgt := 69) hx hb d_TS_confirm_62 (by decide) (fun h_8 => ?_) (fun h_8 => ?_)
        · subst h_8
          refine lv_iconst (v := (nI 0)) hx hb d_TS_confirm_69 (by decide) ?_
          refine lv_istore_n (lv' := [(2, .int (nI 0)), (1, .int (wst (ety M) 0 3)), (0, .ref ht)]) hx hb d_TS_confirm_70 rfl hl (by decide) rfl (fun ls hl => ?_)
          refine lv_iload_n hx hb d_TS_confirm_71 rfl (lv_at hl 0 rfl) ?_
          refine nz_ne (tgt := 80) hx hb d_TS_confirm_72 (by decide) (by decide) (fun h_9 => ?_) (fun h_9 => ?_)
          · exact absurd h_9 (by decide)
          · refine lv_aload_n hx hb d_TS_confirm_75 rfl (lv_at hl 2 rfl) ?_
            have hPc := hP.sub (ws' := [(ht, .inr (0, [.ref hm, .ref hs, .ref hp, .int (nI cn), .int (nI 0), .int (bI true), .ref he, .int (nI ec), .int me]))]) [0] rfl
            have hDc := hD.sub (ws' := [(ht, .inr (0, [.ref hm, .ref hs, .ref hp, .int (nI cn), .int (nI 0), .int (bI true), .ref he, .int (nI ec), .int me]))]) [0] (by decide) rfl
            have hFc := va_free (wc := [(ht, .inr (0, [.ref hm, .ref hs, .ref hp, .int (nI cn), .int (nI 0), .int (bI true), .ref he, .int (nI ec), .int me]))]) hD hS hA [0] rfl
            refine va_calli (va_runV (As := []) (rest := []) ⟨hx, hb, hml, hown, hts⟩ (c_TS_powerLost l dC dI cI (ht := ht) (hm := hm) (hs := hs) (hp := hp) (cn := cn) (rn := (nI 0)) (tr := true) (he := he) (ec := ec) (me := me)  (sz := H.size)) ⟨callB_of 0 hts (gd kw_293) rfl rfl rfl (hts _ kw_35) (hts _ kw_290) (by decide +kernel) ⟨Nat.le_of_ble_eq_true rfl, Nat.le_of_ble_eq_true rfl⟩, (hts _ kw_292), (hts _ kw_9)⟩ ⟨fun a U g mk q => by obtain ⟨q0, q1, qP, qK, qD⟩ := q; exact ⟨q0, q1, qP, qK.call, qD⟩, va_recv hK hP (ci := 0) rfl (q0 := 0) rfl, fun U hU hW => ⟨rfl, by rw [hU], by rw [hU]; exact hPc, hKN.warm hW, hDc.weaken (fun _ _ _ _ => trivial)⟩⟩ rfl rfl hl.1 rfl (lv_room (Nat.le_of_ble_eq_true rfl)) d_TS_confirm_76 ⟨Nat.zero_le _, Nat.zero_le _⟩) hS (fun q _ h => hFc q h) hFc (fun r u t H1 locs zt zvm zw zB zz zk hS => ?_)
            obtain ⟨rn_10, tr_10, ec_10, me_10⟩ := u
            obtain ⟨r_10, rfl⟩ : ∃ z, z = r := ⟨_, rfl⟩
            have hu_10 := zw
            simp only [Prod.mk.injEq] at hu_10
            obtain ⟨rfl, rfl, rfl, rfl, rfl⟩ := hu_10
            obtain ⟨hP1, hD1⟩ := zB
            rw [zt] at hP1
            have hP1 : va_P (dC, dI) classes [(ht, .inr (0, [.ref hm, .ref hs, .ref hp, .int (nI cn), .int (-1), .int (bI false), .ref he, .int (nI 0), .int (nI 0)]))] H1 := hP1
            obtain ⟨hP, hD⟩ := va_join (wc := [(ht, .inr (0, [.ref hm, .ref hs, .ref hp, .int (nI cn), .int (nI 0), .int (bI true), .ref he, .int (nI ec), .int me]))]) (wr := [(hs, .inr (2, [.ref hw, .int (nI bl_7), .int dn_7, .int lf_7])), (hw, .inl (cI, 40, .inl M_3))]) (w1 := [(ht, .inr (0, [.ref hm, .ref hs, .ref hp, .int (nI cn), .int (-1), .int (bI false), .ref he, .int (nI 0), .int (nI 0)]))]) hP hD [0] [1, 2] rfl rfl (by decide) (by decide) zk hFc hP1 hD1
            generalize H1 = H at hP hS ⊢
            have hP : va_P (dC, dI) classes [(ht, .inr (0, [.ref hm, .ref hs, .ref hp, .int (nI cn), .int (-1), .int (bI false), .ref he, .int (nI 0), .int (nI 0)])), (hs, .inr (2, [.ref hw, .int (nI bl_7), .int dn_7, .int lf_7])), (hw, .inl (cI, 40, .inl M_3))] H := hP.sub [2, 0, 1] rfl
            have hD : va_D A [(ht, .inr (0, [.ref hm, .ref hs, .ref hp, .int (nI cn), .int (-1), .int (bI false), .ref he, .int (nI 0), .int (nI 0)])), (hs, .inr (2, [.ref hw, .int (nI bl_7), .int dn_7, .int lf_7])), (hw, .inl (cI, 40, .inl M_3))] := hD.sub [2, 0, 1] (by decide) rfl
            clear hPc hDc hFc hP1 hD1 zk zz zvm zt
            exact W.iret (v := (-1)) hx hb hr (fun t ht hW => ⟨⟨(-1), ((-1), false, 0, (nI 0), M_3, bl_7, dn_7, lf_7), rfl, (by show cfK 0 _ _ _ _ _ _ _ = _; simp only [cfK, hu_3, hu_7, eq_self, reduceCtorEq, if_true, if_false, Nat.reduceSub]), by rw [ht]; exact hP, hD⟩, hS.F ht⟩) hS.2.2 d_TS_confirm_79
        · subst h_8
          refine lv_iconst (v := (nI 1)) hx hb d_TS_confirm_65 (by decide) ?_
          refine lv_goto (tgt := 70) hx hb d_TS_confirm_66 (by decide) ?_
          refine lv_istore_n (lv' := [(2, .int (nI 1)), (1, .int (wst (ety M) 0 3)), (0, .ref ht)]) hx hb d_TS_confirm_70 rfl hl (by decide) rfl (fun ls hl => ?_)
          refine lv_iload_n hx hb d_TS_confirm_71 rfl (lv_at hl 0 rfl) ?_
          refine nz_ne (tgt := 80) hx hb d_TS_confirm_72 (by decide) (by decide) (fun h_11 => ?_) (fun h_11 => ?_)
          · refine lv_aload_n hx hb d_TS_confirm_80 rfl (lv_at hl 2 rfl) ?_
            refine lv_iconst (v := (nI 0)) hx hb d_TS_confirm_81 (by decide) ?_
            refine va_put (D := (dC, dI)) (ci := 0) (v := .int (bI false)) (ty := .boolean) (C := R_TS) (T := F_TS) (N := 9) hx hb hts in_TS t_TS t_TS_ok n_TS hown hK hP hD hS 0 rfl rfl 5 (by decide) (hts _ kw_147) (fun _ h9 => h9) rfl (by decide +kernel) (bI_narrow _) (bI_fits _) (Nat.le_of_ble_eq_true rfl) d_TS_confirm_82 (fun H locs hP hD hS => ?_)
            have hP : va_P (dC, dI) classes [(ht, .inr (0, [.ref hm, .ref hs, .ref hp, .int (nI cn), .int (nI 0), .int (bI false), .ref he, .int (nI ec), .int me])), (hs, .inr (2, [.ref hw, .int (nI bl_7), .int dn_7, .int lf_7])), (hw, .inl (cI, 40, .inl M_3))] H := hP
            have hD : va_D A [(ht, .inr (0, [.ref hm, .ref hs, .ref hp, .int (nI cn), .int (nI 0), .int (bI false), .ref he, .int (nI ec), .int me])), (hs, .inr (2, [.ref hw, .int (nI bl_7), .int dn_7, .int lf_7])), (hw, .inl (cI, 40, .inl M_3))] := hD
            refine lv_iconst (v := (nI 0)) hx hb d_TS_confirm_85 (by decide) ?_
            exact W.iret (v := (nI 0)) hx hb hr (fun t ht hW => ⟨⟨(nI 0), ((nI 0), false, ec, me, M_3, bl_7, dn_7, lf_7), rfl, (by show cfK 0 _ _ _ _ _ _ _ = _; simp only [cfK, hu_3, hu_7, eq_self, reduceCtorEq, if_true, if_false, Nat.reduceSub]), by rw [ht]; exact hP, hD⟩, hS.F ht⟩) hS.2.2 d_TS_confirm_86
          · exact absurd h_11 (by decide)
    · exact absurd h_2 (by decide)
  · refine lv_aload_n hx hb d_TS_confirm_0 rfl (lv_at hl 0 rfl) ?_
    refine va_get (D := (dC, dI)) (ci := 0) (v := .int (bI true)) (C := R_TS) (T := F_TS) (N := 9) hx hb hts in_TS hown hK hP 0 rfl rfl 5 (by decide) (hts _ kw_147) (fun _ h9 => h9) rfl d_TS_confirm_1 ?_
    refine bz_ne (tgt := 10) hx hb d_TS_confirm_4 (by decide) (fun h_12 => ?_) (fun h_12 => ?_)
    · refine lv_aload_n hx hb d_TS_confirm_10 rfl (lv_at hl 0 rfl) ?_
      refine va_get (D := (dC, dI)) (ci := 0) (v := .ref hs) (C := R_TS) (T := F_TS) (N := 9) hx hb hts in_TS hown hK hP 0 rfl rfl 1 (by decide) (hts _ kw_143) (fun _ h9 => h9) rfl d_TS_confirm_11 ?_
      refine pr_call (va_runV (As := []) (rest := []) ⟨hx, hb, hml, hown, hts⟩ (c_St_entry l dC dI cI (hs := hs) (hw := hw) (bl := bl) (dn := dn) (lf := lf) (M := M) ) ⟨callB_of 0 hts (gd kw_243) rfl rfl rfl (hts _ kw_39) (hts _ kw_240) (by decide +kernel) ⟨Nat.le_of_ble_eq_true rfl, Nat.le_of_ble_eq_true rfl⟩, (hts _ kw_241), (hts _ kw_242)⟩ ⟨fun a U g mk q => by obtain ⟨q0, qP, qK⟩ := q; exact ⟨q0, qP, qK.call⟩, va_recv hK hP (ci := 2) rfl (q0 := 1) rfl, fun U hU hW => ⟨rfl, by rw [hU]; exact hP.sub [1, 2] rfl, hKN.warm hW⟩⟩ rfl rfl hl.1 rfl (lv_room (Nat.le_of_ble_eq_true rfl)) d_TS_confirm_14 ⟨Nat.zero_le _, Nat.zero_le _⟩) ?_
      refine lv_aload_n hx hb d_TS_confirm_17 rfl (lv_at hl 0 rfl) ?_
      refine va_get (D := (dC, dI)) (ci := 0) (v := .int (nI 1)) (C := R_TS) (T := F_TS) (N := 9) hx hb hts in_TS hown hK hP 0 rfl rfl 4 (by decide) (hts _ kw_146) (fun _ h9 => h9) rfl d_TS_confirm_18 ?_
      refine lv_iconst (v := (nI 3)) hx hb d_TS_confirm_21 (by decide) ?_
      refine pr_call (va_runS (As := [.int (ety M), .int (nI 1), .int (nI 3)]) (rest := []) ⟨hx, hb, hml, hown, hts⟩ (c_Tb_withState l dC dI cI (en := ety M) (k := 1) (v := 3) ) ⟨callB_of 3 hts (gd kw_264) rfl rfl rfl (hts _ kw_42) (hts _ kw_262) (by decide +kernel) ⟨Nat.le_of_ble_eq_true rfl, Nat.le_of_ble_eq_true rfl⟩, (hts _ kw_263)⟩ ⟨fun a U g mk q => by obtain ⟨q0, qP, qK⟩ := q; exact ⟨q0, qP, qK.call⟩, fun U hU hW => ⟨rfl, by rw [hU]; exact hP.sub [] rfl, hKN.warm hW⟩⟩ rfl rfl hl.1 rfl (lv_room (Nat.le_of_ble_eq_true rfl)) d_TS_confirm_22 ⟨Nat.zero_le _, Nat.zero_le _⟩) ?_
      refine lv_istore_n (lv' := [(1, .int (wst (ety M) 1 3)), (0, .ref ht)]) hx hb d_TS_confirm_25 rfl hl (by decide) rfl (fun ls hl => ?_)
      refine lv_aload_n hx hb d_TS_confirm_26 rfl (lv_at hl 1 rfl) ?_
      refine va_get (D := (dC, dI)) (ci := 0) (v := .ref hs) (C := R_TS) (T := F_TS) (N := 9) hx hb hts in_TS hown hK hP 0 rfl rfl 1 (by decide) (hts _ kw_143) (fun _ h9 => h9) rfl d_TS_confirm_27 ?_
      refine lv_iload_n hx hb d_TS_confirm_30 rfl (lv_at hl 0 rfl) ?_
      refine lv_aload_n hx hb d_TS_confirm_31 rfl (lv_at hl 1 rfl) ?_
      refine va_get (D := (dC, dI)) (ci := 0) (v := .int (nI 1)) (C := R_TS) (T := F_TS) (N := 9) hx hb hts in_TS hown hK hP 0 rfl rfl 4 (by decide) (hts _ kw_146) (fun _ h9 => h9) rfl d_TS_confirm_32 ?_
      refine pr_call (va_runS (As := [.int (wst (ety M) 1 3), .int (nI 1)]) (rest := [.ref hs]) ⟨hx, hb, hml, hown, hts⟩ (c_Tb_withHome l dC dI cI (en := wst (ety M) 1 3) (k := 1) ) ⟨callB_of 2 hts (gd kw_270) rfl rfl rfl (hts _ kw_42) (hts _ kw_268) (by decide +kernel) ⟨Nat.le_of_ble_eq_true rfl, Nat.le_of_ble_eq_true rfl⟩, (hts _ kw_269)⟩ ⟨fun a U g mk q => by obtain ⟨q0, qP, qK⟩ := q; exact ⟨q0, qP, qK.call⟩, fun U hU hW => ⟨rfl, by rw [hU]; exact hP.sub [] rfl, hKN.warm hW⟩⟩ rfl rfl hl.1 rfl (lv_room (Nat.le_of_ble_eq_true rfl)) d_TS_confirm_35 ⟨Nat.zero_le _, Nat.zero_le _⟩) ?_
      have hPc := hP.sub (ws' := [(hs, .inr (2, [.ref hw, .int (nI bl), .int dn, .int lf])), (hw, .inl (cI, 40, .inl M))]) [1, 2] rfl
      have hDc := hD.sub (ws' := [(hs, .inr (2, [.ref hw, .int (nI bl), .int dn, .int lf])), (hw, .inl (cI, 40, .inl M))]) [1, 2] (by decide) rfl
      have hFc := va_free (wc := [(hs, .inr (2, [.ref hw, .int (nI bl), .int dn, .int lf])), (hw, .inl (cI, 40, .inl M))]) hD hS hA [1, 2] rfl
      refine va_calli (va_runV (As := [.int (who (wst (ety M) 1 3) 1)]) (rest := []) ⟨hx, hb, hml, hown, hts⟩ (c_St_writeTable l dC dI cI (hs := hs) (en := who (wst (ety M) 1 3) 1) (hw := hw) (bl := bl) (dn := dn) (lf := lf) (M := M)  (sz := s.heap.size)) ⟨callB_of 1 hts (gd kw_274) rfl rfl rfl (hts _ kw_39) (hts _ kw_271) (by decide +kernel) ⟨Nat.le_of_ble_eq_true rfl, Nat.le_of_ble_eq_true rfl⟩, (hts _ kw_272), (hts _ kw_273)⟩ ⟨fun a U g mk q => by obtain ⟨q0, q1, qP, qK, qD⟩ := q; exact ⟨q0, q1, qP, qK.call, qD⟩, va_recv hK hP (ci := 2) rfl (q0 := 1) rfl, fun U hU hW => ⟨rfl, by rw [hU], by rw [hU]; exact hPc, hKN.warm hW, hDc.weaken (fun _ _ _ _ => trivial)⟩⟩ rfl rfl hl.1 rfl (lv_room (Nat.le_of_ble_eq_true rfl)) d_TS_confirm_38 ⟨Nat.zero_le _, Nat.zero_le _⟩) hS (fun q _ h => hFc q h) hFc (fun r u t H1 locs zt zvm zw zB zz zk hS => ?_)
      obtain ⟨M_13, dn_13, lf_13⟩ := u
      obtain ⟨b_13, rfl, hu_13⟩ := zw
      obtain ⟨hP1, hD1⟩ := zB
      rw [zt] at hP1
      have hP1 : va_P (dC, dI) classes [(hs, .inr (2, [.ref hw, .int (nI bl), .int dn_13, .int lf_13])), (hw, .inl (cI, 40, .inl M_13))] H1 := hP1
      obtain ⟨hP, hD⟩ := va_join (wc := [(hs, .inr (2, [.ref hw, .int (nI bl), .int dn, .int lf])), (hw, .inl (cI, 40, .inl M))]) (wr := [(ht, .inr (0, [.ref hm, .ref hs, .ref hp, .int (nI cn), .int (nI 1), .int (bI true), .ref he, .int (nI ec), .int me]))]) (w1 := [(hs, .inr (2, [.ref hw, .int (nI bl), .int dn_13, .int lf_13])), (hw, .inl (cI, 40, .inl M_13))]) hP hD [1, 2] [0] rfl rfl (by decide) (by decide) zk hFc hP1 hD1
      generalize H1 = H at hP hS ⊢
      have hP : va_P (dC, dI) classes [(ht, .inr (0, [.ref hm, .ref hs, .ref hp, .int (nI cn), .int (nI 1), .int (bI true), .ref he, .int (nI ec), .int me])), (hs, .inr (2, [.ref hw, .int (nI bl), .int dn_13, .int lf_13])), (hw, .inl (cI, 40, .inl M_13))] H := hP.sub [0, 1, 2] rfl
      have hD : va_D A [(ht, .inr (0, [.ref hm, .ref hs, .ref hp, .int (nI cn), .int (nI 1), .int (bI true), .ref he, .int (nI ec), .int me])), (hs, .inr (2, [.ref hw, .int (nI bl), .int dn_13, .int lf_13])), (hw, .inl (cI, 40, .inl M_13))] := hD.sub [0, 1, 2] (by decide) rfl
      clear hPc hDc hFc hP1 hD1 zk zz zvm zt
      refine bz_eq (tgt := 69) hx hb d_TS_confirm_41 (by decide) (fun h_14 => ?_) (fun h_14 => ?_)
      · subst h_14
        refine lv_iconst (v := (nI 0)) hx hb d_TS_confirm_69 (by decide) ?_
        refine lv_istore_n (lv' := [(2, .int (nI 0)), (1, .int (wst (ety M) 1 3)), (0, .ref ht)]) hx hb d_TS_confirm_70 rfl hl (by decide) rfl (fun ls hl => ?_)
        refine lv_iload_n hx hb d_TS_confirm_71 rfl (lv_at hl 0 rfl) ?_
        refine nz_ne (tgt := 80) hx hb d_TS_confirm_72 (by decide) (by decide) (fun h_15 => ?_) (fun h_15 => ?_)
        · exact absurd h_15 (by decide)
        · refine lv_aload_n hx hb d_TS_confirm_75 rfl (lv_at hl 2 rfl) ?_
          have hPc := hP.sub (ws' := [(ht, .inr (0, [.ref hm, .ref hs, .ref hp, .int (nI cn), .int (nI 1), .int (bI true), .ref he, .int (nI ec), .int me]))]) [0] rfl
          have hDc := hD.sub (ws' := [(ht, .inr (0, [.ref hm, .ref hs, .ref hp, .int (nI cn), .int (nI 1), .int (bI true), .ref he, .int (nI ec), .int me]))]) [0] (by decide) rfl
          have hFc := va_free (wc := [(ht, .inr (0, [.ref hm, .ref hs, .ref hp, .int (nI cn), .int (nI 1), .int (bI true), .ref he, .int (nI ec), .int me]))]) hD hS hA [0] rfl
          refine va_calli (va_runV (As := []) (rest := []) ⟨hx, hb, hml, hown, hts⟩ (c_TS_powerLost l dC dI cI (ht := ht) (hm := hm) (hs := hs) (hp := hp) (cn := cn) (rn := (nI 1)) (tr := true) (he := he) (ec := ec) (me := me)  (sz := H.size)) ⟨callB_of 0 hts (gd kw_293) rfl rfl rfl (hts _ kw_35) (hts _ kw_290) (by decide +kernel) ⟨Nat.le_of_ble_eq_true rfl, Nat.le_of_ble_eq_true rfl⟩, (hts _ kw_292), (hts _ kw_9)⟩ ⟨fun a U g mk q => by obtain ⟨q0, q1, qP, qK, qD⟩ := q; exact ⟨q0, q1, qP, qK.call, qD⟩, va_recv hK hP (ci := 0) rfl (q0 := 0) rfl, fun U hU hW => ⟨rfl, by rw [hU], by rw [hU]; exact hPc, hKN.warm hW, hDc.weaken (fun _ _ _ _ => trivial)⟩⟩ rfl rfl hl.1 rfl (lv_room (Nat.le_of_ble_eq_true rfl)) d_TS_confirm_76 ⟨Nat.zero_le _, Nat.zero_le _⟩) hS (fun q _ h => hFc q h) hFc (fun r u t H1 locs zt zvm zw zB zz zk hS => ?_)
          obtain ⟨rn_16, tr_16, ec_16, me_16⟩ := u
          obtain ⟨r_16, rfl⟩ : ∃ z, z = r := ⟨_, rfl⟩
          have hu_16 := zw
          simp only [Prod.mk.injEq] at hu_16
          obtain ⟨rfl, rfl, rfl, rfl, rfl⟩ := hu_16
          obtain ⟨hP1, hD1⟩ := zB
          rw [zt] at hP1
          have hP1 : va_P (dC, dI) classes [(ht, .inr (0, [.ref hm, .ref hs, .ref hp, .int (nI cn), .int (-1), .int (bI false), .ref he, .int (nI 0), .int (nI 0)]))] H1 := hP1
          obtain ⟨hP, hD⟩ := va_join (wc := [(ht, .inr (0, [.ref hm, .ref hs, .ref hp, .int (nI cn), .int (nI 1), .int (bI true), .ref he, .int (nI ec), .int me]))]) (wr := [(hs, .inr (2, [.ref hw, .int (nI bl), .int dn_13, .int lf_13])), (hw, .inl (cI, 40, .inl M_13))]) (w1 := [(ht, .inr (0, [.ref hm, .ref hs, .ref hp, .int (nI cn), .int (-1), .int (bI false), .ref he, .int (nI 0), .int (nI 0)]))]) hP hD [0] [1, 2] rfl rfl (by decide) (by decide) zk hFc hP1 hD1
          generalize H1 = H at hP hS ⊢
          have hP : va_P (dC, dI) classes [(ht, .inr (0, [.ref hm, .ref hs, .ref hp, .int (nI cn), .int (-1), .int (bI false), .ref he, .int (nI 0), .int (nI 0)])), (hs, .inr (2, [.ref hw, .int (nI bl), .int dn_13, .int lf_13])), (hw, .inl (cI, 40, .inl M_13))] H := hP.sub [2, 0, 1] rfl
          have hD : va_D A [(ht, .inr (0, [.ref hm, .ref hs, .ref hp, .int (nI cn), .int (-1), .int (bI false), .ref he, .int (nI 0), .int (nI 0)])), (hs, .inr (2, [.ref hw, .int (nI bl), .int dn_13, .int lf_13])), (hw, .inl (cI, 40, .inl M_13))] := hD.sub [2, 0, 1] (by decide) rfl
          clear hPc hDc hFc hP1 hD1 zk zz zvm zt
          exact W.iret (v := (-1)) hx hb hr (fun t ht hW => ⟨⟨(-1), ((-1), false, 0, (nI 0), M_13, bl, dn_13, lf_13), rfl, (by show cfK 1 _ _ _ _ _ _ _ = _; simp only [cfK, hu_13, eq_self, reduceCtorEq, if_true, if_false, Nat.reduceSub]), by rw [ht]; exact hP, hD⟩, hS.F ht⟩) hS.2.2 d_TS_confirm_79
      · subst h_14
        refine lv_aload_n hx hb d_TS_confirm_44 rfl (lv_at hl 1 rfl) ?_
        refine va_get (D := (dC, dI)) (ci := 0) (v := .ref hs) (C := R_TS) (T := F_TS) (N := 9) hx hb hts in_TS hown hK hP 0 rfl rfl 1 (by decide) (hts _ kw_143) (fun _ h9 => h9) rfl d_TS_confirm_45 ?_
        refine lv_aload_n hx hb d_TS_confirm_48 rfl (lv_at hl 1 rfl) ?_
        refine va_get (D := (dC, dI)) (ci := 0) (v := .ref hs) (C := R_TS) (T := F_TS) (N := 9) hx hb hts in_TS hown hK hP 0 rfl rfl 1 (by decide) (hts _ kw_143) (fun _ h9 => h9) rfl d_TS_confirm_49 ?_
        refine lv_aload_n hx hb d_TS_confirm_52 rfl (lv_at hl 1 rfl) ?_
        refine va_get (D := (dC, dI)) (ci := 0) (v := .int (nI 1)) (C := R_TS) (T := F_TS) (N := 9) hx hb hts in_TS hown hK hP 0 rfl rfl 4 (by decide) (hts _ kw_146) (fun _ h9 => h9) rfl d_TS_confirm_53 ?_
        refine pr_call (va_runV (As := [.int (nI 1)]) (rest := [.ref hs]) ⟨hx, hb, hml, hown, hts⟩ (c_St_versionIn l dC dI cI (hs := hs) (k := 1) (hw := hw) (bl := bl) (dn := dn_13) (lf := lf_13) (M := M_13) (hk := (by omega))) ⟨callB_of 1 hts (gd kw_320) rfl rfl rfl (hts _ kw_39) (hts _ kw_317) (by decide +kernel) ⟨Nat.le_of_ble_eq_true rfl, Nat.le_of_ble_eq_true rfl⟩, (hts _ kw_318), (hts _ kw_319)⟩ ⟨fun a U g mk q => by obtain ⟨q0, qP, qK⟩ := q; exact ⟨q0, qP, qK.call⟩, va_recv hK hP (ci := 2) rfl (q0 := 1) rfl, fun U hU hW => ⟨rfl, by rw [hU]; exact hP.sub [1, 2] rfl, hKN.warm hW⟩⟩ rfl rfl hl.1 rfl (lv_room (Nat.le_of_ble_eq_true rfl)) d_TS_confirm_56 ⟨Nat.zero_le _, Nat.zero_le _⟩) ?_
        have hPc := hP.sub (ws' := [(hs, .inr (2, [.ref hw, .int (nI bl), .int dn_13, .int lf_13]))]) [1] rfl
        have hDc := hD.sub (ws' := [(hs, .inr (2, [.ref hw, .int (nI bl), .int dn_13, .int lf_13]))]) [1] (by decide) rfl
        have hFc := va_free (wc := [(hs, .inr (2, [.ref hw, .int (nI bl), .int dn_13, .int lf_13]))]) hD hS hA [1] rfl
        refine va_calli (va_runV (As := [.int (M_13 (1 * 17))]) (rest := []) ⟨hx, hb, hml, hown, hts⟩ (c_St_blowUpTo l dC dI cI (hs := hs) (v := M_13 (1 * 17)) (hw := hw) (bl := bl) (dn := dn_13) (lf := lf_13) (hbl := (by omega)) (sz := H.size)) ⟨callB_of 1 hts (gd kw_341) rfl rfl rfl (hts _ kw_39) (hts _ kw_338) (by decide +kernel) ⟨Nat.le_of_ble_eq_true rfl, Nat.le_of_ble_eq_true rfl⟩, (hts _ kw_339), (hts _ kw_340)⟩ ⟨fun a U g mk q => by obtain ⟨q0, q1, qP, qK, qD⟩ := q; exact ⟨q0, q1, qP, qK.call, qD⟩, va_recv hK hP (ci := 2) rfl (q0 := 1) rfl, fun U hU hW => ⟨rfl, by rw [hU], by rw [hU]; exact hPc, hKN.warm hW, hDc.weaken (fun _ _ _ _ => trivial)⟩⟩ rfl rfl hl.1 rfl (lv_room (Nat.le_of_ble_eq_true rfl)) d_TS_confirm_59 ⟨Nat.zero_le _, Nat.zero_le _⟩) hS (fun q _ h => hFc q h) hFc (fun r u t H1 locs zt zvm zw zB zz zk hS => ?_)
        obtain ⟨bl_17, dn_17, lf_17⟩ := u
        obtain ⟨b_17, rfl, hu_17⟩ := zw
        obtain ⟨hP1, hD1⟩ := zB
        rw [zt] at hP1
        have hP1 : va_P (dC, dI) classes [(hs, .inr (2, [.ref hw, .int (nI bl_17), .int dn_17, .int lf_17]))] H1 := hP1
        obtain ⟨hP, hD⟩ := va_join (wc := [(hs, .inr (2, [.ref hw, .int (nI bl), .int dn_13, .int lf_13]))]) (wr := [(ht, .inr (0, [.ref hm, .ref hs, .ref hp, .int (nI cn), .int (nI 1), .int (bI true), .ref he, .int (nI ec), .int me])), (hw, .inl (cI, 40, .inl M_13))]) (w1 := [(hs, .inr (2, [.ref hw, .int (nI bl_17), .int dn_17, .int lf_17]))]) hP hD [1] [0, 2] rfl rfl (by decide) (by decide) zk hFc hP1 hD1
        generalize H1 = H at hP hS ⊢
        have hP : va_P (dC, dI) classes [(ht, .inr (0, [.ref hm, .ref hs, .ref hp, .int (nI cn), .int (nI 1), .int (bI true), .ref he, .int (nI ec), .int me])), (hs, .inr (2, [.ref hw, .int (nI bl_17), .int dn_17, .int lf_17])), (hw, .inl (cI, 40, .inl M_13))] H := hP.sub [0, 2, 1] rfl
        have hD : va_D A [(ht, .inr (0, [.ref hm, .ref hs, .ref hp, .int (nI cn), .int (nI 1), .int (bI true), .ref he, .int (nI ec), .int me])), (hs, .inr (2, [.ref hw, .int (nI bl_17), .int dn_17, .int lf_17])), (hw, .inl (cI, 40, .inl M_13))] := hD.sub [0, 2, 1] (by decide) rfl
        clear hPc hDc hFc hP1 hD1 zk zz zvm zt
        refine bz_eq (tgt := 69) hx hb d_TS_confirm_62 (by decide) (fun h_18 => ?_) (fun h_18 => ?_)
        · subst h_18
          refine lv_iconst (v := (nI 0)) hx hb d_TS_confirm_69 (by decide) ?_
          refine lv_istore_n (lv' := [(2, .int (nI 0)), (1, .int (wst (ety M) 1 3)), (0, .ref ht)]) hx hb d_TS_confirm_70 rfl hl (by decide) rfl (fun ls hl => ?_)
          refine lv_iload_n hx hb d_TS_confirm_71 rfl (lv_at hl 0 rfl) ?_
          refine nz_ne (tgt := 80) hx hb d_TS_confirm_72 (by decide) (by decide) (fun h_19 => ?_) (fun h_19 => ?_)
          · exact absurd h_19 (by decide)
          · refine lv_aload_n hx hb d_TS_confirm_75 rfl (lv_at hl 2 rfl) ?_
            have hPc := hP.sub (ws' := [(ht, .inr (0, [.ref hm, .ref hs, .ref hp, .int (nI cn), .int (nI 1), .int (bI true), .ref he, .int (nI ec), .int me]))]) [0] rfl
            have hDc := hD.sub (ws' := [(ht, .inr (0, [.ref hm, .ref hs, .ref hp, .int (nI cn), .int (nI 1), .int (bI true), .ref he, .int (nI ec), .int me]))]) [0] (by decide) rfl
            have hFc := va_free (wc := [(ht, .inr (0, [.ref hm, .ref hs, .ref hp, .int (nI cn), .int (nI 1), .int (bI true), .ref he, .int (nI ec), .int me]))]) hD hS hA [0] rfl
            refine va_calli (va_runV (As := []) (rest := []) ⟨hx, hb, hml, hown, hts⟩ (c_TS_powerLost l dC dI cI (ht := ht) (hm := hm) (hs := hs) (hp := hp) (cn := cn) (rn := (nI 1)) (tr := true) (he := he) (ec := ec) (me := me)  (sz := H.size)) ⟨callB_of 0 hts (gd kw_293) rfl rfl rfl (hts _ kw_35) (hts _ kw_290) (by decide +kernel) ⟨Nat.le_of_ble_eq_true rfl, Nat.le_of_ble_eq_true rfl⟩, (hts _ kw_292), (hts _ kw_9)⟩ ⟨fun a U g mk q => by obtain ⟨q0, q1, qP, qK, qD⟩ := q; exact ⟨q0, q1, qP, qK.call, qD⟩, va_recv hK hP (ci := 0) rfl (q0 := 0) rfl, fun U hU hW => ⟨rfl, by rw [hU], by rw [hU]; exact hPc, hKN.warm hW, hDc.weaken (fun _ _ _ _ => trivial)⟩⟩ rfl rfl hl.1 rfl (lv_room (Nat.le_of_ble_eq_true rfl)) d_TS_confirm_76 ⟨Nat.zero_le _, Nat.zero_le _⟩) hS (fun q _ h => hFc q h) hFc (fun r u t H1 locs zt zvm zw zB zz zk hS => ?_)
            obtain ⟨rn_20, tr_20, ec_20, me_20⟩ := u
            obtain ⟨r_20, rfl⟩ : ∃ z, z = r := ⟨_, rfl⟩
            have hu_20 := zw
            simp only [Prod.mk.injEq] at hu_20
            obtain ⟨rfl, rfl, rfl, rfl, rfl⟩ := hu_20
            obtain ⟨hP1, hD1⟩ := zB
            rw [zt] at hP1
            have hP1 : va_P (dC, dI) classes [(ht, .inr (0, [.ref hm, .ref hs, .ref hp, .int (nI cn), .int (-1), .int (bI false), .ref he, .int (nI 0), .int (nI 0)]))] H1 := hP1
            obtain ⟨hP, hD⟩ := va_join (wc := [(ht, .inr (0, [.ref hm, .ref hs, .ref hp, .int (nI cn), .int (nI 1), .int (bI true), .ref he, .int (nI ec), .int me]))]) (wr := [(hs, .inr (2, [.ref hw, .int (nI bl_17), .int dn_17, .int lf_17])), (hw, .inl (cI, 40, .inl M_13))]) (w1 := [(ht, .inr (0, [.ref hm, .ref hs, .ref hp, .int (nI cn), .int (-1), .int (bI false), .ref he, .int (nI 0), .int (nI 0)]))]) hP hD [0] [1, 2] rfl rfl (by decide) (by decide) zk hFc hP1 hD1
            generalize H1 = H at hP hS ⊢
            have hP : va_P (dC, dI) classes [(ht, .inr (0, [.ref hm, .ref hs, .ref hp, .int (nI cn), .int (-1), .int (bI false), .ref he, .int (nI 0), .int (nI 0)])), (hs, .inr (2, [.ref hw, .int (nI bl_17), .int dn_17, .int lf_17])), (hw, .inl (cI, 40, .inl M_13))] H := hP.sub [2, 0, 1] rfl
            have hD : va_D A [(ht, .inr (0, [.ref hm, .ref hs, .ref hp, .int (nI cn), .int (-1), .int (bI false), .ref he, .int (nI 0), .int (nI 0)])), (hs, .inr (2, [.ref hw, .int (nI bl_17), .int dn_17, .int lf_17])), (hw, .inl (cI, 40, .inl M_13))] := hD.sub [2, 0, 1] (by decide) rfl
            clear hPc hDc hFc hP1 hD1 zk zz zvm zt
            exact W.iret (v := (-1)) hx hb hr (fun t ht hW => ⟨⟨(-1), ((-1), false, 0, (nI 0), M_13, bl_17, dn_17, lf_17), rfl, (by show cfK 1 _ _ _ _ _ _ _ = _; simp only [cfK, hu_13, hu_17, eq_self, reduceCtorEq, if_true, if_false, Nat.reduceSub]), by rw [ht]; exact hP, hD⟩, hS.F ht⟩) hS.2.2 d_TS_confirm_79
        · subst h_18
          refine lv_iconst (v := (nI 1)) hx hb d_TS_confirm_65 (by decide) ?_
          refine lv_goto (tgt := 70) hx hb d_TS_confirm_66 (by decide) ?_
          refine lv_istore_n (lv' := [(2, .int (nI 1)), (1, .int (wst (ety M) 1 3)), (0, .ref ht)]) hx hb d_TS_confirm_70 rfl hl (by decide) rfl (fun ls hl => ?_)
          refine lv_iload_n hx hb d_TS_confirm_71 rfl (lv_at hl 0 rfl) ?_
          refine nz_ne (tgt := 80) hx hb d_TS_confirm_72 (by decide) (by decide) (fun h_21 => ?_) (fun h_21 => ?_)
          · refine lv_aload_n hx hb d_TS_confirm_80 rfl (lv_at hl 2 rfl) ?_
            refine lv_iconst (v := (nI 0)) hx hb d_TS_confirm_81 (by decide) ?_
            refine va_put (D := (dC, dI)) (ci := 0) (v := .int (bI false)) (ty := .boolean) (C := R_TS) (T := F_TS) (N := 9) hx hb hts in_TS t_TS t_TS_ok n_TS hown hK hP hD hS 0 rfl rfl 5 (by decide) (hts _ kw_147) (fun _ h9 => h9) rfl (by decide +kernel) (bI_narrow _) (bI_fits _) (Nat.le_of_ble_eq_true rfl) d_TS_confirm_82 (fun H locs hP hD hS => ?_)
            have hP : va_P (dC, dI) classes [(ht, .inr (0, [.ref hm, .ref hs, .ref hp, .int (nI cn), .int (nI 1), .int (bI false), .ref he, .int (nI ec), .int me])), (hs, .inr (2, [.ref hw, .int (nI bl_17), .int dn_17, .int lf_17])), (hw, .inl (cI, 40, .inl M_13))] H := hP
            have hD : va_D A [(ht, .inr (0, [.ref hm, .ref hs, .ref hp, .int (nI cn), .int (nI 1), .int (bI false), .ref he, .int (nI ec), .int me])), (hs, .inr (2, [.ref hw, .int (nI bl_17), .int dn_17, .int lf_17])), (hw, .inl (cI, 40, .inl M_13))] := hD
            refine lv_iconst (v := (nI 0)) hx hb d_TS_confirm_85 (by decide) ?_
            exact W.iret (v := (nI 0)) hx hb hr (fun t ht hW => ⟨⟨(nI 0), ((nI 1), false, ec, me, M_13, bl_17, dn_17, lf_17), rfl, (by show cfK 1 _ _ _ _ _ _ _ = _; simp only [cfK, hu_13, hu_17, eq_self, reduceCtorEq, if_true, if_false, Nat.reduceSub]), by rw [ht]; exact hP, hD⟩, hS.F ht⟩) hS.2.2 d_TS_confirm_86
          · exact absurd h_21 (by decide)
    · exact absurd h_12 (by decide)
