/-! sign and the start on both sides -/
def Sh (a : Nat) (F G : Nat → Int32) : Prop := ∀ j, F (a + j) = G j
theorem Sh_upd {a : Nat} {F G : Nat → Int32} (h : Sh a F G) {k k' : Nat} (hk : k = a + k') (x : Int32) : Sh a (upd F k x) (upd G k' x) := by
  intro j
  subst hk
  unfold upd
  by_cases e : j = k'
  · rw [if_pos e, if_pos (by omega)]
  · rw [if_neg e, if_neg (by omega)]
    exact h j
theorem Sh_ms4 {a : Nat} {F G : Nat → Int32} (h : Sh a F G) {b b' : Nat} (hb : b = a + b') : ms4 (fun i => F (b + i)) = ms4 (fun i => G (b' + i)) := by
  have e : (fun i => F (b + i)) = fun i => G (b' + i) := by
    funext i
    rw [hb, Nat.add_assoc]
    exact h _
  rw [e]
theorem Sh_putC {a : Nat} {F G : Nat → Int32} (h : Sh a F G) {b b' : Nat} (hb : b = a + b') (sc : Int32) (q : Nat) (m : Int32) : Sh a (putC sc q b m F) (putC sc q b' m G) :=
  Sh_upd (Sh_upd (Sh_upd (Sh_upd (Sh_upd (Sh_upd h (by omega) _) (by omega) _) (by omega) _) (by omega) _) (by omega) _) (by omega) _
theorem Sh_putCh {a : Nat} {F G : Nat → Int32} (h : Sh a F G) {b b' : Nat} (hb : b = a + b') (sc : Int32) (q : Nat) : Sh a (putCh sc q b F) (putCh sc q b' G) := by
  unfold putCh
  rw [Sh_ms4 h hb]
  exact Sh_putC h hb sc q _
theorem sib_pos {n : Nat} (h : 2 ≤ n) : 0 < sib n := by
  unfold sib
  split <;> omega
theorem mkN_at (sc : Int32) : ∀ j, 0 < j → j < 16 → mkN sc j = ndV sc j := by
  refine tU_congr (fun j h1 h2 => ?_)
  unfold mL upd
  obtain rfl | rfl | rfl | rfl | rfl | rfl | rfl | rfl : j = 8 ∨ j = 9 ∨ j = 10 ∨ j = 11 ∨ j = 12 ∨ j = 13 ∨ j = 14 ∨ j = 15 := by omega
  all_goals simp
theorem Sh_putPa {a : Nat} {F G : Nat → Int32} (h : Sh a F G) {b b' : Nat} (hb : b = a + b') (sc : Int32) {q : Nat} (hq : q < 8) : Sh a (putPa (ndV sc) q b F) (putPa (mkN sc) q b' G) := by
  unfold putPa
  rw [mkN_at sc (sib (8 + q)) (sib_pos (by omega)) (sib_lt (by omega)), mkN_at sc (sib ((8 + q) / 2)) (sib_pos (by omega)) (sib_lt (by omega)), mkN_at sc (sib ((8 + q) / 2 / 2)) (sib_pos (by omega)) (sib_lt (by omega))]
  exact Sh_upd (Sh_upd (Sh_upd h (by omega) _) (by omega) _) (by omega) _
theorem sg3_C (B q : Nat) (ve a0 a1 a2 : Int32) (M : Nat → Int32) : sg3 B (upd (upd (upd (upd (upd M B ve) (B + 4) (nI q)) (B + 14) a0) (B + 15) a1) (B + 16) a2) = upd (upd (upd (upd (upd (upd (upd (upd M B ve) (B + 4) (nI q)) (B + 14) a0) (B + 15) a1) (B + 16) a2) (B + 1) (hh a0 (nI 0))) (B + 2) (hh a1 (nI 1))) (B + 3) (hh a2 (nI 2)) := by
  unfold sg3
  have e0 : upd (upd (upd (upd (upd M B ve) (B + 4) (nI q)) (B + 14) a0) (B + 15) a1) (B + 16) a2 (B + 14) = a0 := by
    rw [pk_un (by omega), pk_un (by omega), pk_us]
  have e1 : upd (upd (upd (upd (upd M B ve) (B + 4) (nI q)) (B + 14) a0) (B + 15) a1) (B + 16) a2 (B + 15) = a1 := by
    rw [pk_un (by omega), pk_us]
  have e2 : upd (upd (upd (upd (upd M B ve) (B + 4) (nI q)) (B + 14) a0) (B + 15) a1) (B + 16) a2 (B + 16) = a2 := pk_us
  rw [e0, e1, e2]
theorem Sh_C {a : Nat} {F G : Nat → Int32} (h : Sh a F G) {b b' : Nat} (hb : b = a + b') (q : Nat) (ve a0 a1 a2 : Int32) :
    Sh a (sg3 b (upd (upd (upd (upd (upd F b ve) (b + 4) (nI q)) (b + 14) a0) (b + 15) a1) (b + 16) a2)) (upd (stg (stg (stg (upd G b' ve) b' 0 a0) b' 1 a1) b' 2 a2) (b' + 4) (nI q)) := by
  rw [sg3_C]
  intro j
  subst hb
  have hj := h j
  unfold stg upd
  repeat' split
  all_goals first | (exfalso; omega) | exact hj | with_reducible rfl
/-- the package that the reference seals is the one that the class packs, a places further on -/
theorem Sh_seal {a : Nat} {F G : Nat → Int32} (h : Sh a F G) {b b' : Nat} (hb : b = a + b') (sc : Int32) {q : Nat} (hq : q < 8) (ve a0 a1 a2 : Int32) :
    Sh a (sealM sc q b (upd (upd (upd (upd (upd F b ve) (b + 4) (nI q)) (b + 14) a0) (b + 15) a1) (b + 16) a2)) (pk17 sc (mkN sc) q b' ve a0 a1 a2 G).2 :=
  Sh_putPa (Sh_putCh (Sh_C h hb q ve a0 a1 a2) hb sc q) hb sc hq
theorem seal_lo (sc : Int32) (q b : Nat) (ve a0 a1 a2 : Int32) (M : Nat → Int32) : ∀ j, j < b ∨ b + 17 ≤ j → sealM sc q b (upd (upd (upd (upd (upd M b ve) (b + 4) (nI q)) (b + 14) a0) (b + 15) a1) (b + 16) a2) j = M j := by
  intro j hj
  unfold sealM putPa putCh putC
  rw [pk_un (by omega), pk_un (by omega), pk_un (by omega), pk_un (by omega), pk_un (by omega), pk_un (by omega), pk_un (by omega), pk_un (by omega), pk_un (by omega), sg3_C]
  rw [pk_un (by omega), pk_un (by omega), pk_un (by omega), pk_un (by omega), pk_un (by omega), pk_un (by omega), pk_un (by omega), pk_un (by omega)]
def sgRel (o : Int32 × Nat × Nat × (Nat → Int32)) (o' : Int32 × Nat × (Nat → Int32)) (M : Nat → Int32) : Prop :=
  o.1 = o'.1 ∧ o.2.1 = o'.2.1 ∧ o.2.2.1 = o.2.1 + 1 ∧ o.2.1 ≤ 7 ∧ o.2.2.2 = (fun j => o'.2.2 (40 + j)) ∧ ∀ j, j < 40 → M j = o'.2.2 j
theorem sg_rel (sc : Int32) {cn : Nat} (hcn : cn ≤ 7) (ve a0 a1 a2 : Int32) (M : Nat → Int32) : sgRel (tsSign sc (mkN sc) cn (cn + 1) ve a0 a1 a2 (fun j => M (40 + j))) (moSign sc cn ve a0 a1 a2 M) M := by
  unfold tsSign moSign isVer
  by_cases h1 : ve < nI 1
  · simp only [if_pos h1, if_true]
    exact ⟨rfl, rfl, rfl, hcn, rfl, fun _ _ => rfl⟩
  · by_cases h2 : nI 32 < ve
    · simp only [if_neg h1, if_pos h2, if_true]
      exact ⟨rfl, rfl, rfl, hcn, rfl, fun _ _ => rfl⟩
    · simp only [if_neg h1, if_neg h2, reduceCtorEq, if_false]
      by_cases h3 : cn = 7
      · rw [if_pos h3, if_pos (by omega)]
        exact ⟨rfl, rfl, rfl, hcn, rfl, fun _ _ => rfl⟩
      · rw [if_neg h3, if_neg (by omega), if_pos (by omega)]
        refine ⟨?_, rfl, rfl, (show cn + 1 ≤ 7 by omega), ?_, fun j hj => (seal_lo _ _ _ _ _ _ _ _ j (by omega)).symm⟩
        · rw [Nat.add_sub_cancel]
        · funext j
          exact (Sh_seal (a := 40) (F := M) (G := fun j => M (40 + j)) (fun _ => rfl) (b' := cn * 17) (by omega) sc (by omega) ve a0 a1 a2 j).symm
theorem st_rel (sc im : Int32) : (∀ j, j < 40 → stI (pk17 sc (mkN sc) 0 0 (nI 1) im (im + nI 1) (im + nI 2) (fun _ => 0)).2 j = moI sc im j) ∧ ∀ j, moI sc im (40 + j) = 0 := by
  have h0 : ∀ j, sealM sc 0 0 (upd (upd (upd (upd (upd (fun _ => 0) 0 (nI 1)) (0 + 4) (nI 0)) (0 + 14) im) (0 + 15) (im + nI 1)) (0 + 16) (im + nI 2)) j = (pk17 sc (mkN sc) 0 0 (nI 1) im (im + nI 1) (im + nI 2) (fun _ => 0)).2 j := by
    intro j
    have h := Sh_seal (a := 0) (F := fun _ => 0) (G := fun _ => 0) (fun _ => rfl) (b := 0) (b' := 0) rfl sc (q := 0) (by decide) (nI 1) im (im + nI 1) (im + nI 2) j
    rw [show 0 + j = j from Nat.zero_add j] at h
    exact h
  have hl := seal_lo sc 0 0 (nI 1) im (im + nI 1) (im + nI 2) (fun _ => 0)
  have e : moI sc im = upd (upd (upd (sealM sc 0 0 (upd (upd (upd (upd (upd (fun _ => 0) 0 (nI 1)) (0 + 4) (nI 0)) (0 + 14) im) (0 + 15) (im + nI 1)) (0 + 16) (im + nI 2))) 34 (nI 1)) 35 (nI 6)) 36 (ck (nI 1) (nI 6)) := rfl
  rw [e]
  generalize sealM sc 0 0 (upd (upd (upd (upd (upd (fun _ => 0) 0 (nI 1)) (0 + 4) (nI 0)) (0 + 14) im) (0 + 15) (im + nI 1)) (0 + 16) (im + nI 2)) = S at h0 hl
  refine ⟨fun j hj => ?_, fun j => ?_⟩
  · unfold stI
    rw [← funext h0]
    unfold upd va_cpy
    by_cases h36 : j = 36
    · rw [if_pos h36, if_pos h36]
    · by_cases h35 : j = 35
      · rw [if_neg h36, if_neg h36, if_pos h35, if_pos h35]
      · by_cases h34 : j = 34
        · rw [if_neg h36, if_neg h36, if_neg h35, if_neg h35, if_pos h34, if_pos h34]
        · rw [if_neg h36, if_neg h36, if_neg h35, if_neg h35, if_neg h34, if_neg h34]
          by_cases h17 : j < 17
          · rw [if_pos (by omega)]
            exact congrArg S (by omega)
          · rw [if_neg (by omega)]
            exact (hl j (by omega)).symm
  · rw [pk_un (by omega), pk_un (by omega), pk_un (by omega)]
    exact hl _ (by omega)
theorem al_rel {v w x : Int32} {cn : Nat} (hcn : cn ≤ 7) (M : Nat → Int32) : (alt v w x cn (fun j => M (40 + j))).1 = (altM v w x cn M).1 ∧ (alt v w x cn (fun j => M (40 + j))).2 = (fun j => (altM v w x cn M).2 (40 + j)) ∧ ∀ j, j < 40 → M j = (altM v w x cn M).2 j := by
  unfold alt altM
  rcases pw_or (v := v) (w := w) (n := cn) (by omega) with ⟨j, i, hj, hi, rfl, rfl, ht⟩ | hb
  · rw [if_pos ht, if_pos ht, nI_clamp (by omega), nI_clamp (by omega)]
    refine ⟨rfl, ?_, fun k hk => (pk_un (by omega)).symm⟩
    funext k
    show upd (fun j => M (40 + j)) (j * 17 + i) x k = upd M (40 + 17 * j + i) x (40 + k)
    unfold upd
    by_cases e : k = j * 17 + i
    · rw [if_pos e, if_pos (by omega)]
    · rw [if_neg e, if_neg (by omega)]
  · rw [if_neg (by rw [hb]; decide), if_neg (by rw [hb]; decide)]
    exact ⟨rfl, rfl, fun _ _ => rfl⟩
theorem wd_rel (v w : Int32) {cn : Nat} (hcn : cn ≤ 7) (M : Nat → Int32) : wrd v w cn (fun j => M (40 + j)) = wrdM v w cn M := by
  unfold wrd wrdM
  rcases pw_or (v := v) (w := w) (n := cn) (by omega) with ⟨j, i, hj, hi, rfl, rfl, ht⟩ | hb
  · rw [if_pos ht, if_pos ht, nI_clamp (by omega), nI_clamp (by omega)]
    exact congrArg M (by omega)
  · rw [if_neg (by rw [hb]; decide), if_neg (by rw [hb]; decide)]
theorem fl_rel (v sc : Int32) {cn : Nat} (hcn : cn ≤ 7) (M : Nat → Int32) : flt v cn (fun j => M (40 + j)) (mkN sc 1) = fltM v cn M (root sc) := by
  unfold flt fltM root
  rw [mkN_at sc 1 (by decide) (by decide)]
  rcases pk_or (v := v) (n := cn) (by omega) with ⟨j, hj, rfl, ht⟩ | hb
  · rw [if_pos ht, if_pos ht, nI_clamp (by omega)]
    have e : (fun i => M (40 + (j * 17 + i))) = fun i => M (40 + 17 * j + i) := by
      funext i
      exact congrArg M (by omega)
    rw [e]
  · rw [if_neg (by rw [hb]; decide), if_neg (by rw [hb]; decide)]
theorem lg_rel (v : Int32) {n : Nat} {en en' : Nat → Int32} (hn : n ≤ 3) (h : ∀ j, j < n → en j = en' j) : lgv v n en = lgv v n en' := by
  rcases lg_or (v := v) (n := n) (by omega) with rfl | ⟨j, hj, rfl⟩ | ⟨h1, h2⟩
  · rfl
  · rw [lgv_in hj (by omega), lgv_in hj (by omega)]
    exact h j hj
  · rw [lgv_out h1 h2, lgv_out h1 h2]
theorem pok_rel (v x : Int32) (M : Nat → Int32) : ∀ j, 40 ≤ j → (pok v x M).2 j = M j := by
  intro j hj
  unfold pok
  rcases pl_or v with ⟨i, hi, rfl, ht⟩ | hb
  · rw [if_pos ht, nI_clamp (by omega)]
    exact pk_un (by omega)
  · rw [if_neg (by rw [hb]; decide)]
/-- two functions that agree below the length make one array -/
theorem vp_ext {cA : ClassId} {n : Nat} {f g : Nat → Int32} (h : ∀ j, j < n → f j = g j) : vp_cell cA (n, .inl f) = vp_cell cA (n, .inl g) := by
  show arrV cA n (fun j => .int (f j)) = arrV cA n (fun j => .int (g j))
  unfold arrV
  congr 1
  apply Array.ext
  · simp
  · intro i h1 h2
    simp at h1
    simp [h i h1]
theorem P_swap {D : va_G} {cl : List vw_C} {ws : va_W} {H : Heap} (k : Nat) {a n : Nat} {cA : ClassId} {f g : Nat → Int32} (hk : ws[k]? = some (a, .inl (cA, n, .inl f))) (h : ∀ j, j < n → f j = g j) (hP : va_P D cl ws H) : va_P D cl (ws.set k (a, .inl (cA, n, .inl g))) H := by
  intro i q hq
  by_cases e : i = k
  · subst e
    have hl : i < ws.length := (List.getElem?_eq_some_iff.mp hk).1
    rw [List.getElem?_set_self hl] at hq
    cases hq
    have h1 : H[a]? = some (vp_cell cA (n, .inl f)) := hP i _ hk
    show H[a]? = some (vp_cell cA (n, .inl g))
    rw [← vp_ext h]
    exact h1
  · rw [List.getElem?_set_ne (fun z => e z.symm)] at hq
    exact hP i q hq
