/-! boot, update and confirm on both sides -/
def RN (rn : Int32) : Prop := rn = -1 ∨ rn = nI 0 ∨ rn = nI 1 ∨ rn = nI 2
def R01 (rn : Int32) : Prop := rn = nI 0 ∨ rn = nI 1
def Inv (rn : Int32) (tr : Bool) (ec : Nat) : Prop := RN rn ∧ (tr = true → R01 rn) ∧ ec ≤ 3
theorem Inv_cut : Inv (-1) false 0 := ⟨Or.inl rfl, fun h => (by cases h), by omega⟩
theorem Inv_rec : Inv (nI 2) false 0 := ⟨Or.inr (Or.inr (Or.inr rfl)), fun h => (by cases h), by omega⟩
theorem Inv_k {k ec : Nat} (hk : k < 2) (tr : Bool) (hc : ec ≤ 3) : Inv (nI k) tr ec := by
  obtain rfl | rfl : k = 0 ∨ k = 1 := by omega
  · exact ⟨Or.inr (Or.inl rfl), fun _ => Or.inl rfl, hc⟩
  · exact ⟨Or.inr (Or.inr (Or.inl rfl)), fun _ => Or.inr rfl, hc⟩
theorem moUK_3 (j : Nat) (rn : Int32) (tr : Bool) (lg : Nat) (me : Int32) (M : Nat → Int32) (dd : Bool) (dn lf : Int32) (k : Nat) (h1 : ¬ rn = -1) (h2 : ¬ tr = true) : moUK j rn tr lg me M dd dn lf k = moU3 17 j rn tr lg me M dd dn lf k := by
  unfold moUK moU3
  rw [if_neg h1, if_neg h2]
theorem rplC_3 (k : Nat) (src M : Nat → Int32) (dn lf : Int32) : rplC k src M dn lf = rpl3 17 k src M dn lf := by
  unfold rplC rpl3
  rw [Nat.mul_comm k 17]
def upM (o : UPT) : MUT := match o with
  | (r, rn, tr, ec, me, M, dn, lf) => (r, rn, tr, ec, me, M, false, dn, lf)
def upI (o : UPT) (M : Nat → Int32) : Prop := Inv o.2.1 o.2.2.1 o.2.2.2.1 ∧ ∀ j, 40 ≤ j → o.2.2.2.2.2.1 j = M j
theorem up_all (v : Int32) (cn : Nat) (rn : Int32) (tr : Bool) (ec : Nat) (me : Int32) (M : Nat → Int32) (dn lf : Int32) : moUp v cn rn tr ec me M false dn lf = upM (upD v cn (fun j => M (40 + j)) rn tr ec me M dn lf) := by
  unfold moUp upD
  cases isPk v cn
  · rfl
  · rw [if_pos rfl, if_pos rfl]
    unfold upL
    by_cases h1 : rn = -1
    · unfold moUK
      rw [if_pos h1, if_pos h1]
      rfl
    · by_cases h2 : tr = true
      · unfold moUK
        rw [if_neg h1, if_pos h2, if_neg h1, if_pos h2]
        rfl
      · rw [moUK_3 _ _ _ _ _ _ _ _ _ _ h1 h2, up_3 17 _ _ _ _ _ _ _ _ (by omega) (by omega), if_neg h1, if_neg h2, rplC_3]
        generalize rpl3 17 (1 - kept rn M) (fun i => M (40 + (v.toNatClampNeg * 17 + i))) M dn lf = o
        obtain ⟨b, M1, d1, f1⟩ := o
        cases b <;> rfl
theorem up_inv (v : Int32) (cn : Nat) (pk : Nat → Int32) {rn : Int32} {tr : Bool} {ec : Nat} (h : Inv rn tr ec) (me : Int32) (M : Nat → Int32) (dn lf : Int32) : upI (upD v cn pk rn tr ec me M dn lf) M := by
  unfold upD
  cases isPk v cn
  · exact ⟨h, fun _ _ => rfl⟩
  · rw [if_pos rfl]
    unfold upL
    by_cases h1 : rn = -1
    · rw [if_pos h1]; exact ⟨h, fun _ _ => rfl⟩
    · by_cases h2 : tr = true
      · rw [if_neg h1, if_pos h2]; exact ⟨h, fun _ _ => rfl⟩
      · rw [if_neg h1, if_neg h2]
        have hF := Fr_rpl (k := 1 - kept rn M) (by omega) (fun i => pk (v.toNatClampNeg * 17 + i)) M dn lf
        generalize rplC (1 - kept rn M) (fun i => pk (v.toNatClampNeg * 17 + i)) M dn lf = o at hF ⊢
        obtain ⟨b, M1, d1, f1⟩ := o
        cases b
        · exact ⟨Inv_cut, hF⟩
        · exact ⟨h, hF⟩
theorem cf_all {rn : Int32} {tr : Bool} {ec : Nat} (h : Inv rn tr ec) (me : Int32) (M : Nat → Int32) {bl : Nat} (hbl : bl ≤ 32) (dn lf : Int32) : moCf rn tr ec me M bl false dn lf = cfM (cfC rn tr ec me M bl dn lf) := by
  unfold moCf cfC
  cases tr
  · rfl
  · rw [if_pos rfl, if_pos rfl]
    rcases h.2.1 rfl with e | e
    · subst e
      rw [nI_clamp (by decide)]
      exact cf_eq (by decide) _ _ _ _ hbl _ _
    · subst e
      rw [nI_clamp (by decide)]
      exact cf_eq (by decide) _ _ _ _ hbl _ _
def cfI (o : CFT) (M : Nat → Int32) : Prop := Inv o.2.1 o.2.2.1 o.2.2.2.1 ∧ o.2.2.2.2.2.2.1 ≤ 32 ∧ ∀ j, 40 ≤ j → o.2.2.2.2.2.1 j = M j
theorem cf_inv {rn : Int32} {tr : Bool} {ec : Nat} (h : Inv rn tr ec) (me : Int32) (M : Nat → Int32) {bl : Nat} (hbl : bl ≤ 32) (dn lf : Int32) : cfI (cfC rn tr ec me M bl dn lf) M := by
  unfold cfC
  cases tr
  · exact ⟨h, hbl, fun _ _ => rfl⟩
  · rw [if_pos rfl]
    unfold cfK
    generalize rn.toNatClampNeg = k
    have hF := Fr_pTab M dn lf (who (wst (ety M) k 3) k)
    generalize pTab M dn lf (who (wst (ety M) k 3) k) = o at hF ⊢
    obtain ⟨b, M1, d1, f1⟩ := o
    cases b
    · exact ⟨Inv_cut, hbl, hF⟩
    · have hq := pBlow_le (M1 (k * 17)) d1 f1 hbl
      simp only []
      generalize pBlow (M1 (k * 17)) bl d1 f1 = z at hq ⊢
      obtain ⟨b2, bl2, d2, f2⟩ := z
      cases b2
      · exact ⟨Inv_cut, hq, hF⟩
      · exact ⟨⟨h.1, fun z => (by cases z), h.2.2⟩, hq, hF⟩
theorem att_rel (r : Nat → Int32) (bl : Nat) (rt : Int32) (en en' : Nat → Int32) : ∃ (b : Bool) (e1 e2 : Nat → Int32) (c : Nat) (m : Int32), att r bl rt en = (b, e1, c, m) ∧ att r bl rt en' = (b, e2, c, m) ∧ (∀ j, j < c → e1 j = e2 j) ∧ c ≤ 3 := by
  have none : ∀ j, j < 0 → en j = en' j := fun j h => absurd h (Nat.not_lt_zero _)
  unfold att
  by_cases h1 : isVer (r 0) = false
  · rw [if_pos h1, if_pos h1]; exact ⟨_, _, _, _, _, rfl, rfl, none, by omega⟩
  · rw [if_neg h1, if_neg h1]
    by_cases h2 : r 0 < nI bl
    · rw [if_pos h2, if_pos h2]; exact ⟨_, _, _, _, _, rfl, rfl, none, by omega⟩
    · rw [if_neg h2, if_neg h2]
      by_cases h3 : sgOk r rt = false
      · rw [if_pos h3, if_pos h3]; exact ⟨_, _, _, _, _, rfl, rfl, none, by omega⟩
      · rw [if_neg h3, if_neg h3]
        by_cases h4 : stOk r 0 = false
        · rw [if_pos h4, if_pos h4]; exact ⟨_, _, _, _, _, rfl, rfl, none, by omega⟩
        · rw [if_neg h4, if_neg h4]
          by_cases h5 : stOk r 1 = false
          · rw [if_pos h5, if_pos h5]
            refine ⟨_, _, _, _, _, rfl, rfl, fun j hj => ?_, by omega⟩
            obtain rfl : j = 0 := by omega
            rw [pk_us, pk_us]
          · rw [if_neg h5, if_neg h5]
            by_cases h6 : stOk r 2 = false
            · rw [if_pos h6, if_pos h6]
              refine ⟨_, _, _, _, _, rfl, rfl, fun j hj => ?_, by omega⟩
              unfold upd
              split
              · rfl
              · rw [if_pos (by omega), if_pos (by omega)]
            · rw [if_neg h6, if_neg h6]
              refine ⟨_, _, _, _, _, rfl, rfl, fun j hj => ?_, by omega⟩
              unfold upd
              split
              · rfl
              · split
                · rfl
                · rw [if_pos (by omega), if_pos (by omega)]
def BRel (o : BTT) (o' : MBT) (M : Nat → Int32) : Prop :=
  (o.1 = o'.1 ∧ o.2.1 = o'.2.1 ∧ o.2.2.1 = o'.2.2.1 ∧ o.2.2.2.2.1 = o'.2.2.2.1 ∧ o.2.2.2.2.2.1 = o'.2.2.2.2.1 ∧ o.2.2.2.2.2.2.1 = o'.2.2.2.2.2.2.1 ∧ o.2.2.2.2.2.2.2.1 = o'.2.2.2.2.2.2.2.1 ∧ o'.2.2.2.2.2.2.2.2.1 = false ∧ o.2.2.2.2.2.2.2.2.1 = o'.2.2.2.2.2.2.2.2.2.1 ∧ o.2.2.2.2.2.2.2.2.2 = o'.2.2.2.2.2.2.2.2.2.2) ∧ (∀ j, j < o.2.2.2.2.1 → o.2.2.2.1 j = o'.2.2.2.2.2.1 j) ∧ Inv o.2.1 o.2.2.1 o.2.2.2.2.1 ∧ o.2.2.2.2.2.2.2.1 ≤ 32 ∧ ∀ j, 40 ≤ j → o.2.2.2.2.2.2.1 j = M j
theorem bl_rel {k : Nat} (hk : k < 2) {M M0 : Nat → Int32} (hM : ∀ j, 40 ≤ j → M j = M0 j) {e1 e2 : Nat → Int32} {c : Nat} (m : Int32) (hag : ∀ j, j < c → e1 j = e2 j) (hc : c ≤ 3) {bl : Nat} (hbl : bl ≤ 32) (dn lf : Int32) : BRel (scB M (blw k M false e1 c m bl dn lf)) (mbw k false M e2 c m bl false dn lf) M0 := by
  unfold blw mbw
  rw [mBl_eq _ dn lf hbl, Nat.mul_comm 17 k]
  have hq := pBlow_le (M (k * 17)) dn lf hbl
  generalize pBlow (M (k * 17)) bl dn lf = z at hq ⊢
  obtain ⟨b, bl2, d2, f2⟩ := z
  cases b
  · exact ⟨⟨rfl, rfl, rfl, rfl, rfl, rfl, rfl, rfl, rfl, rfl⟩, fun j h => absurd h (Nat.not_lt_zero _), Inv_cut, hq, hM⟩
  · exact ⟨⟨rfl, rfl, rfl, rfl, rfl, rfl, rfl, rfl, rfl, rfl⟩, hag, Inv_k hk _ hc, hq, hM⟩
theorem t_rel (k : Nat) (M : Nat → Int32) (rt : Int32) (en en' : Nat → Int32) (ec lg : Nat) (me me' : Int32) (bl : Nat) :
    (∃ (e1 e2 : Nat → Int32) (c : Nat) (m : Int32), t1 k M rt en ec me bl = (true, e1, c, m) ∧ mt1 k M rt en' lg me' bl = (true, e2, c, m) ∧ (∀ j, j < c → e1 j = e2 j) ∧ c ≤ 3) ∨
    (∃ (e1 e2 : Nat → Int32) (c1 c2 : Nat) (m1 m2 : Int32), t1 k M rt en ec me bl = (false, e1, c1, m1) ∧ mt1 k M rt en' lg me' bl = (false, e2, c2, m2)) := by
  unfold t1 mt1 cfm
  by_cases h : stt (ety M) k = 3
  · rw [if_pos (decide_eq_true h), if_pos h, Nat.mul_comm 17 k]
    obtain ⟨b, e1, e2, c, m, h1, h2, h3, h4⟩ := att_rel (fun i => M (k * 17 + i)) bl rt en en'
    cases b
    · exact Or.inr ⟨e1, e2, c, c, m, m, h1, h2⟩
    · exact Or.inl ⟨e1, e2, c, m, h1, h2, h3, h4⟩
  · rw [if_neg (by rw [decide_eq_false h]; decide), if_neg h]
    exact Or.inr ⟨_, _, _, _, _, _, rfl, rfl⟩
theorem sc_rel {M M0 : Nat → Int32} (hM : ∀ j, 40 ≤ j → M j = M0 j) (rt rn : Int32) (en en' : Nat → Int32) (ec lg : Nat) (me me' : Int32) {bl : Nat} (hbl : bl ≤ 32) (dn lf : Int32) : BRel (scB M (scC M rt rn false en ec me bl dn lf)) (moSc rt lg me' en' M bl false dn lf) M0 := by
  unfold scC moSc
  have hhm := hom_lt (ety M)
  rcases t_rel (hom (ety M)) M rt en en' ec lg me me' bl with ⟨e1, e2, c, m, h1, h2, h3, h4⟩ | ⟨e1, e2, c1, c2, m1, m2, h1, h2⟩
  · rw [h1, h2]
    show BRel (scB M (blw (hom (ety M)) M false e1 c m bl dn lf)) (mbw (hom (ety M)) false M e2 c m bl false dn lf) M0
    exact @bl_rel (hom (ety M)) hhm M M0 hM e1 e2 c m h3 h4 bl hbl dn lf
  · rw [h1, h2]
    simp only []
    rcases t_rel (1 - hom (ety M)) M rt e1 e2 c1 c2 m1 m2 bl with ⟨f1, f2, c, m, g1, g2, g3, g4⟩ | ⟨f1, f2, d1, d2, n1, n2, g1, g2⟩
    · rw [g1, g2]
      show BRel (scB M (blw (1 - hom (ety M)) M false f1 c m bl dn lf)) (mbw (1 - hom (ety M)) false M f2 c m bl false dn lf) M0
      exact @bl_rel (1 - hom (ety M)) (by omega) M M0 hM f1 f2 c m g3 g4 bl hbl dn lf
    · rw [g1, g2]
      exact ⟨⟨rfl, rfl, rfl, rfl, rfl, rfl, rfl, rfl, rfl, rfl⟩, fun j h => absurd h (Nat.not_lt_zero _), Inv_rec, hbl, hM⟩
theorem mbw_dead (k : Nat) (M en : Nat → Int32) (lg : Nat) (me : Int32) (fu : Nat) (dn lf : Int32) : mbw k false M en lg me fu true dn lf = (-1, -1, false, 0, nI 0, en, M, fu, false, dn, lf) := by
  unfold mbw
  rw [mBl_t]
  rfl
theorem sc_dead (rt : Int32) (lg : Nat) (me : Int32) (en M : Nat → Int32) (fu : Nat) (dn lf : Int32) : ∃ e : Nat → Int32, moSc rt lg me en M fu true dn lf = (-1, -1, false, 0, nI 0, e, M, fu, false, dn, lf) := by
  unfold moSc
  generalize mt1 (hom (ety M)) M rt en lg me fu = o
  obtain ⟨b, e1, l1, m1⟩ := o
  cases b
  · simp only []
    generalize mt1 (1 - hom (ety M)) M rt e1 l1 m1 fu = o2
    obtain ⟨b2, e2, l2, m2⟩ := o2
    cases b2
    · exact ⟨e2, rfl⟩
    · exact ⟨e2, mbw_dead _ _ _ _ _ _ _ _⟩
  · exact ⟨e1, mbw_dead _ _ _ _ _ _ _ _⟩
theorem trlO_lt {e : Int32} {k : Nat} (h : trlO e = some k) : k < 2 := by
  rcases trl_or e with h1 | h1 | h1
  · rw [h] at h1; cases h1.2
  · rw [h] at h1; cases h1.2; omega
  · rw [h] at h1; cases h1.2; omega
theorem bt_rel (rt : Int32) (en en' : Nat → Int32) (lg : Nat) (me : Int32) (M : Nat → Int32) {bl : Nat} (hbl : bl ≤ 32) (dn lf : Int32) : BRel (btC rt en M bl dn lf) (moBt rt lg me en' M bl false dn lf) M := by
  unfold btC moBt
  cases ht : trlO (ety M) with
  | none => exact sc_rel (fun _ _ => rfl) rt (-1) en en' 0 lg (nI 0) me hbl dn lf
  | some k =>
    have hk := trlO_lt ht
    simp only []
    rw [pTab_B M dn lf hk (by decide)]
    have hF := Fr_pTab M dn lf (wst (ety M) k 1)
    generalize pTab M dn lf (wst (ety M) k 1) = o at hF ⊢
    obtain ⟨b1, M1, d1, f1⟩ := o
    rw [Nat.mul_comm 17 k]
    obtain ⟨b, e1, e2, c, m, h1, h2, h3, h4⟩ := att_rel (fun i => M1 (k * 17 + i)) bl rt en en'
    cases b1
    · simp only [im, Bool.not_false]
      rw [h2]
      cases b
      · simp only []
        obtain ⟨e9, h9⟩ := sc_dead rt c m e2 M1 bl d1 f1
        rw [h9]
        exact ⟨⟨rfl, rfl, rfl, rfl, rfl, rfl, rfl, rfl, rfl, rfl⟩, fun j h => absurd h (Nat.not_lt_zero _), Inv_cut, hbl, hF⟩
      · exact ⟨⟨rfl, rfl, rfl, rfl, rfl, rfl, rfl, rfl, rfl, rfl⟩, fun j h => absurd h (Nat.not_lt_zero _), Inv_cut, hbl, hF⟩
    · simp only [im, Bool.not_true]
      rw [h1, h2]
      cases b
      · exact sc_rel hF rt (-1) e1 e2 c c m m hbl d1 f1
      · exact ⟨⟨rfl, rfl, rfl, rfl, rfl, rfl, rfl, rfl, rfl, rfl⟩, h3, Inv_k hk _ h4, hbl, hF⟩
