/-! the class's picture and the reference's are one -/
def im (o : Bool × ST) : MPT := (o.2.1, !o.1, o.2.2.1, o.2.2.2)
theorem mMay_f (dn lf : Int32) : mMay false dn lf = ((pMay dn lf).1, !(pMay dn lf).1, (pMay dn lf).2.1, (pMay dn lf).2.2) := by
  unfold mMay pMay
  by_cases h : lf = 0
  · simp [h]
  · by_cases h2 : lf ≤ 0
    · simp [h, h2]
    · simp [h, h2]
theorem mMay_t (dn lf : Int32) : mMay true dn lf = (false, true, dn, lf) := by
  unfold mMay
  rw [if_pos rfl]
theorem mPut_f (M : Nat → Int32) (dn lf : Int32) (k : Nat) (x : Int32) : mPut M false dn lf k x = im (pPut M dn lf k x) := by
  unfold mPut pPut im
  rw [mMay_f]
  rcases pMay dn lf with ⟨b, d, f⟩
  cases b <;> rfl
theorem mPut_t (M : Nat → Int32) (dn lf : Int32) (k : Nat) (x : Int32) : mPut M true dn lf k x = (M, true, dn, lf) := by
  unfold mPut
  rw [mMay_t]
theorem mTab_t (e : Nat) (M : Nat → Int32) (dn lf : Int32) : mTab e M true dn lf = (M, true, dn, lf) := by
  unfold mTab
  simp only [mPut_t]
theorem mTab_f (e : Nat) (M : Nat → Int32) (dn lf : Int32) : mTab e M false dn lf = im (tab3 (plc M) (srl M) (nI e) M dn lf) := by
  unfold mTab tab3
  rw [mPut_f]
  rcases pPut M dn lf (plc M) (srl M) with ⟨b1, M1, d1, f1⟩
  cases b1
  · simp only [im, sq, Bool.not_false, mPut_t]
  · simp only [im, sq, Bool.not_true]
    rw [mPut_f]
    rcases pPut M1 d1 f1 (plc M + 1) (nI e) with ⟨b2, M2, d2, f2⟩
    cases b2
    · simp only [im, sq, Bool.not_false, mPut_t]
    · simp only [im, sq, Bool.not_true]
      rw [mPut_f]
      rfl
/-- nothing at 40 or beyond is written -/
def Fr (o : Bool × ST) (M : Nat → Int32) : Prop := ∀ j, 40 ≤ j → o.2.1 j = M j
theorem Fr_put (M : Nat → Int32) (dn lf : Int32) {k : Nat} (x : Int32) (hk : k < 40) : Fr (pPut M dn lf k x) M := by
  intro j hj
  unfold pPut
  rcases pMay dn lf with ⟨b, d, f⟩
  cases b
  · rfl
  · exact pk_un (by omega)
theorem Fr_sq {o : Bool × ST} {f : ST → Bool × ST} {M : Nat → Int32} (h : Fr o M) (h2 : ∀ u : ST, (∀ j, 40 ≤ j → u.1 j = M j) → Fr (f u) M) : Fr (sq o f) M := by
  rcases o with ⟨b, u⟩
  cases b
  · exact h
  · exact h2 u h
theorem Fr_put' {u : ST} {M : Nat → Int32} (hu : ∀ j, 40 ≤ j → u.1 j = M j) {k : Nat} (x : Int32) (hk : k < 40) : Fr (pPut u.1 u.2.1 u.2.2 k x) M := fun j hj => (Fr_put u.1 u.2.1 u.2.2 x hk j hj).trans (hu j hj)
theorem Fr_tab {pl : Nat} (sr e : Int32) (M : Nat → Int32) (dn lf : Int32) (h : pl + 2 < 40) : Fr (tab3 pl sr e M dn lf) M :=
  Fr_sq (Fr_put M dn lf sr (by omega)) (fun _ hu => Fr_sq (Fr_put' hu e (by omega)) (fun _ hu => Fr_put' hu _ h))
theorem Fr_pTab (M : Nat → Int32) (dn lf e : Int32) : Fr (pTab M dn lf e) M := Fr_tab _ _ _ _ _ (by have := plc_le M; omega)
theorem Fr_wpL (src : Nat → Int32) (pl : Nat) : ∀ (n i : Nat) (u : ST) (M : Nat → Int32), pl + i + n ≤ 40 → (∀ j, 40 ≤ j → u.1 j = M j) → Fr (wpL src pl n i u) M := by
  intro n
  induction n with
  | zero => intro i u M _ hu; exact hu
  | succ n ih => intro i u M h hu; exact Fr_sq (Fr_put' hu _ (by omega)) (fun v hv => ih (i + 1) v M (by omega) hv)
theorem Fr_rpl {k : Nat} (hk : k < 2) (src M : Nat → Int32) (dn lf : Int32) : Fr (rplC k src M dn lf) M :=
  Fr_sq (Fr_pTab M dn lf _) (fun u hu => Fr_sq (Fr_wpL src (k * 17) 17 0 u M (by omega) hu) (fun v hv j hj => (Fr_pTab v.1 v.2.1 v.2.2 _ j hj).trans (hv j hj)))
theorem mWp_t (b pl : Nat) : ∀ (n i : Nat) (M : Nat → Int32) (dn lf : Int32), mWp b pl n i (M, true, dn, lf) = (M, true, dn, lf) := by
  intro n
  induction n with
  | zero => intros; rfl
  | succ n ih =>
    intro i M dn lf
    rw [mWp]
    simp only [mPut_t]
    exact ih (i + 1) M dn lf
theorem mWp_f {b pl : Nat} {src : Nat → Int32} (hb : 40 ≤ b) : ∀ (n i : Nat) (M : Nat → Int32) (dn lf : Int32), (∀ j, i ≤ j → j < i + n → M (b + j) = src j) → pl + i + n ≤ 40 → mWp b pl n i (M, false, dn, lf) = im (wpL src pl n i (M, dn, lf)) := by
  intro n
  induction n with
  | zero => intros; rfl
  | succ n ih =>
    intro i M dn lf h h1
    rw [mWp, wpL]
    simp only []
    rw [mPut_f, h i (Nat.le_refl _) (by omega)]
    have hF := Fr_put M dn lf (k := pl + i) (src i) (by omega)
    rcases hp : pPut M dn lf (pl + i) (src i) with ⟨b1, M1, d1, f1⟩
    rw [hp] at hF
    cases b1
    · simp only [im, sq, Bool.not_false, mWp_t]
    · simp only [im, sq, Bool.not_true]
      have hM : ∀ j, i + 1 ≤ j → j < i + 1 + n → M1 (b + j) = src j := fun j hj hj2 => (hF (b + j) (by omega)).trans (h j (by omega) (by omega))
      exact ih (i + 1) M1 d1 f1 hM (by omega)
theorem pTab_A (M : Nat → Int32) (dn lf : Int32) {k v g : Nat} (hk : k < 2) (hv : v < 4) (hg : g < 2) : mTab (tbe k v g (stt (ety M) (1 - k))) M false dn lf = im (pTab M dn lf (who (wst (ety M) k v) g)) := by
  rw [mTab_f, pTab, ent_A _ hk hv hg]
theorem pTab_B (M : Nat → Int32) (dn lf : Int32) {k v : Nat} (hk : k < 2) (hv : v < 4) : mTab (tbe k v (hom (ety M)) (stt (ety M) (1 - k))) M false dn lf = im (pTab M dn lf (wst (ety M) k v)) := by
  rw [mTab_f, pTab, ent_B _ hk hv]
theorem wp_im {j k : Nat} (hk : k < 2) (M M1 : Nat → Int32) (d f : Int32) (hM : ∀ i, 40 ≤ i → M1 i = M i) (n : Nat) (hn : n ≤ 17) : mWp (40 + 17 * j) (17 * k) n 0 (M1, false, d, f) = im (wpL (fun i => M (40 + (j * 17 + i))) (17 * k) n 0 (M1, d, f)) :=
  mWp_f (by omega) n 0 M1 d f (fun i _ _ => (hM _ (by omega)).trans (congrArg M (by omega))) (by omega)
/-- the reference's update behind its checks, over any length -/
def moU3 (n j : Nat) (rn : Int32) (tr : Bool) (lg : Nat) (me : Int32) (M : Nat → Int32) (dd : Bool) (dn lf : Int32) (k : Nat) : MUT :=
  match mTab (tbe k 0 (1 - k) (stt (ety M) (1 - k))) M dd dn lf with
  | (M1, dd1, dn1, lf1) => match mWp (40 + 17 * j) (17 * k) n 0 (M1, dd1, dn1, lf1) with
    | (M2, dd2, dn2, lf2) => match mTab (tbe k 2 (hom (ety M2)) (stt (ety M2) (1 - k))) M2 dd2 dn2 lf2 with
      | (M3, dd3, dn3, lf3) => match answ (nI 0) dd3 rn tr lg me with
        | (r, dd4, rn4, tr4, lg4, me4) => (r, rn4, tr4, lg4, me4, M3, dd4, dn3, lf3)
def rpl3 (n k : Nat) (src : Nat → Int32) (M : Nat → Int32) (dn lf : Int32) : Bool × ST :=
  sq (pTab M dn lf (who (wst (ety M) k 0) (1 - k))) (fun u => sq (wpL src (17 * k) n 0 u) (fun u => pTab u.1 u.2.1 u.2.2 (wst (ety u.1) k 2)))
def upT (rn : Int32) (tr : Bool) (ec : Nat) (me : Int32) (o : Bool × ST) : MUT := match o with
  | (true, M1, dn1, lf1) => (nI 0, rn, tr, ec, me, M1, false, dn1, lf1)
  | (false, M1, dn1, lf1) => (-1, -1, false, 0, nI 0, M1, false, dn1, lf1)
theorem up_3 (n j : Nat) (rn : Int32) (tr : Bool) (ec : Nat) (me : Int32) (M : Nat → Int32) (dn lf : Int32) {k : Nat} (hk : k < 2) (hn : n ≤ 17) : moU3 n j rn tr ec me M false dn lf k = upT rn tr ec me (rpl3 n k (fun i => M (40 + (j * 17 + i))) M dn lf) := by
  unfold moU3 rpl3
  rw [pTab_A M dn lf hk (by decide) (by omega)]
  have hF := Fr_pTab M dn lf (who (wst (ety M) k 0) (1 - k))
  generalize pTab M dn lf (who (wst (ety M) k 0) (1 - k)) = o at hF ⊢
  obtain ⟨b1, M1, d1, f1⟩ := o
  cases b1
  · simp only [im, sq, Bool.not_false, mWp_t, mTab_t, answ, if_true, upT]
  · simp only [im, sq, Bool.not_true]
    rw [wp_im hk M M1 d1 f1 hF n hn]
    generalize wpL (fun i => M (40 + (j * 17 + i))) (17 * k) n 0 (M1, d1, f1) = z
    obtain ⟨b2, M2, d2, f2⟩ := z
    cases b2
    · simp only [im, sq, Bool.not_false, mTab_t, answ, if_true, upT]
    · simp only [im, sq, Bool.not_true]
      rw [pTab_B M2 d2 f2 hk (by decide)]
      generalize pTab M2 d2 f2 (wst (ety M2) k 2) = z3
      obtain ⟨b3, M3, d3, f3⟩ := z3
      cases b3
      · simp only [im, Bool.not_false, answ, if_true, upT]
      · simp only [im, Bool.not_true, answ, reduceCtorEq, if_false, upT]
theorem mBs_t (v : Int32) (fu : Nat) (dn lf : Int32) : mBs v (fu, true, dn, lf) = (fu, true, dn, lf) := by
  unfold mBs
  simp only [mMay_t, ite_self]
theorem mBl_t (v : Int32) : ∀ (n fu : Nat) (dn lf : Int32), mBl v n (fu, true, dn, lf) = (fu, true, dn, lf) := by
  intro n
  induction n with
  | zero => intros; rfl
  | succ n ih => intro fu dn lf; rw [mBl, mBs_t]; exact ih fu dn lf
theorem gl_32 (v : Int32) : gl v ≤ 32 := by
  unfold gl
  split
  · omega
  · split <;> omega
theorem gl_iff (v : Int32) {bl : Nat} (h : bl ≤ 32) : gl v ≤ bl ↔ (v ≤ nI bl ∨ 32 ≤ bl) := by
  unfold gl
  by_cases h0 : v < 0
  · rw [if_pos h0]
    exact ⟨fun _ => Or.inl (neg_le h0 (by omega)), fun _ => Nat.zero_le _⟩
  · obtain ⟨j, hj, rfl⟩ := nI_of h0
    rw [if_neg h0, nI_clamp hj, nI_leI hj (by omega)]
    split <;> omega
def imb (o : Bool × Nat × Int32 × Int32) : Nat × Bool × Int32 × Int32 := (o.2.1, !o.1, o.2.2.1, o.2.2.2)
theorem mBl_f (v : Int32) : ∀ (n bl : Nat) (dn lf : Int32), gl v - bl ≤ n → bl ≤ 32 → mBl v n (bl, false, dn, lf) = imb (bw (gl v - bl) bl dn lf) := by
  intro n
  induction n with
  | zero => intro bl dn lf h _; rw [show gl v - bl = 0 by omega]; rfl
  | succ n ih =>
    intro bl dn lf h hb
    rw [mBl]
    by_cases hg : gl v ≤ bl
    · have e : mBs v (bl, false, dn, lf) = (bl, false, dn, lf) := by
        unfold mBs
        rcases (gl_iff v hb).mp hg with h1 | h1
        · rw [if_pos h1]
        · rw [if_pos h1, ite_self]
      rw [e, ih bl dn lf (by omega) hb]
    · have h1 : ¬ v ≤ nI bl := fun z => hg ((gl_iff v hb).mpr (Or.inl z))
      have h2 : ¬ 32 ≤ bl := fun z => hg ((gl_iff v hb).mpr (Or.inr z))
      have hq := gl_32 v
      have e : mBs v (bl, false, dn, lf) = match pMay dn lf with
        | (true, dn', lf') => (bl + 1, false, dn', lf')
        | (false, dn', lf') => (bl, true, dn', lf') := by
        unfold mBs
        simp only [if_neg h1, if_neg h2, mMay_f]
        rcases pMay dn lf with ⟨b, d, f⟩
        cases b <;> rfl
      rw [e, show gl v - bl = (gl v - (bl + 1)) + 1 by omega, bw]
      rcases pMay dn lf with ⟨b, d, f⟩
      cases b
      · simp only [mBl_t, imb, Bool.not_false]
      · simp only []
        exact ih (bl + 1) d f (by omega) (by omega)
theorem bw_le : ∀ (n bl : Nat) (dn lf : Int32), bl + n ≤ 32 → (bw n bl dn lf).2.1 ≤ 32 := by
  intro n
  induction n with
  | zero => intro bl dn lf h; exact h
  | succ n ih =>
    intro bl dn lf h
    rw [bw]
    rcases pMay dn lf with ⟨b, d, f⟩
    cases b
    · show bl ≤ 32
      omega
    · exact ih (bl + 1) d f (by omega)
theorem pBlow_le (v : Int32) {bl : Nat} (dn lf : Int32) (h : bl ≤ 32) : (pBlow v bl dn lf).2.1 ≤ 32 := bw_le _ _ _ _ (by have := gl_32 v; omega)
theorem mBl_eq (v : Int32) {bl : Nat} (dn lf : Int32) (h : bl ≤ 32) : mBl v 32 (bl, false, dn, lf) = imb (pBlow v bl dn lf) := mBl_f v 32 bl dn lf (by have := gl_32 v; omega) h
def cfM (o : CFT) : MCT := match o with
  | (r, rn, tr, ec, me, M, bl, dn, lf) => (r, rn, tr, ec, me, M, bl, false, dn, lf)
theorem cf_eq {k : Nat} (hk : k < 2) (rn : Int32) (ec : Nat) (me : Int32) (M : Nat → Int32) {bl : Nat} (hbl : bl ≤ 32) (dn lf : Int32) : moCfK k rn ec me M bl false dn lf = cfM (cfK k rn ec me M bl dn lf) := by
  unfold moCfK cfK
  rw [pTab_A M dn lf hk (by decide) hk]
  rcases pTab M dn lf (who (wst (ety M) k 3) k) with ⟨b1, M1, d1, f1⟩
  cases b1
  · simp only [im, Bool.not_false, mBl_t, answ, if_true, cfM]
  · simp only [im, Bool.not_true]
    rw [mBl_eq _ d1 f1 hbl, Nat.mul_comm 17 k]
    rcases pBlow (M1 (k * 17)) bl d1 f1 with ⟨b2, bl2, d2, f2⟩
    cases b2
    · simp only [imb, Bool.not_false, answ, if_true, cfM]
    · simp only [imb, Bool.not_true, answ, reduceCtorEq, if_false, cfM]
