/-! The pure picture: what the methods of the class and of the reference reckon, over ints and over arrays as functions of a place. -/
def hh (a b : Int32) : Int32 :=
  (((a ^^^ 1398175271) * 796343837 + b ^^^ ush ((a ^^^ 1398175271) * 796343837 + b) (nI 13)) * 1398175271) ^^^ ush ((((a ^^^ 1398175271) * 796343837 + b) ^^^ ush ((a ^^^ 1398175271) * 796343837 + b) (nI 13)) * 1398175271) (nI 16)
def ck (a b : Int32) : Int32 := hh (hh a b) (nI 5)
/-- n steps along chain c, from place j -/
def alG (h : Int32 → Int32 → Int32) (c : Nat) : Nat → Nat → Int32 → Int32
  | 0, _, x => x
  | n + 1, j, x => alG h c n (j + 1) (h x (nI (16 * c + j)))
theorem alG_0 (h : Int32 → Int32 → Int32) (c j : Nat) (x : Int32) : alG h c 0 j x = x := rfl
theorem alG_s (h : Int32 → Int32 → Int32) (c n j : Nat) (x : Int32) : alG h c (n + 1) j x = alG h c n (j + 1) (h x (nI (16 * c + j))) := rfl
def al (c n j : Nat) (x : Int32) : Int32 := alG hh c n j x
theorem al_0 (c j : Nat) (x : Int32) : al c 0 j x = x := alG_0 hh c j x
theorem al_s (c n j : Nat) (x : Int32) : al c (n + 1) j x = al c n (j + 1) (hh x (nI (16 * c + j))) := alG_s hh c n j x
def cs (s : Int32) (q i : Nat) : Int32 := hh (hh s (nI q)) (nI i)
def ab (a b : Int32) (n : Nat) : Int32 := hh (hh a b) (nI n)
def lf6 (q : Int32) (e : Nat → Int32) : Int32 := hh (hh (hh (hh (hh (hh q (e 0)) (e 1)) (e 2)) (e 3)) (e 4)) (e 5)
def ms4 (r : Nat → Int32) : Int32 := hh (hh (hh (hh (nI 17) (r 0)) (r 1)) (r 2)) (r 3)
/-- digit i of a message, i below 4 -/
def nb4 (m : Int32) (i : Nat) : Nat := (ush m (nI (4 * i))).toBitVec.toNat % 2 ^ 4
def rs4 (m : Int32) : Nat := 60 - nb4 m 0 - nb4 m 1 - nb4 m 2 - nb4 m 3
def dgt (m : Int32) (i : Nat) : Nat := if 4 ≤ i then (if i = 4 then rs4 m % 2 ^ 4 else rs4 m / 2 ^ 4) else nb4 m i
theorem nb4_eq (m : Int32) (i : Nat) : ush m (nI (4 * i)) &&& nI 15 = nI (nb4 m i) := pk_and _ 4 (by decide)
theorem nb4_lt (m : Int32) (i : Nat) : nb4 m i ≤ 15 := by
  have h : nb4 m i < 2 ^ 4 := Nat.mod_lt _ (by decide)
  omega
theorem rs4_le (m : Int32) : rs4 m ≤ 60 := by unfold rs4; omega
theorem dgt_le (m : Int32) (i : Nat) : dgt m i ≤ 15 := by
  have h := rs4_le m
  have h2 := nb4_lt m i
  unfold dgt
  split
  · split <;> omega
  · exact h2
def mkLeaf (s : Int32) (q : Nat) : Int32 := lf6 (nI q) (fun i => al i 15 0 (cs s q i))
def sgEnd (r : Nat → Int32) (i : Nat) : Int32 := al i (15 - dgt (ms4 r) i) (dgt (ms4 r) i) (r (5 + i))
def sgLeaf (r : Nat → Int32) (q : Nat) : Int32 := lf6 (nI q) (sgEnd r)
def up1 (v w : Int32) (n : Nat) : Int32 := if n % 2 = 0 then ab v w (n / 2) else ab w v (n / 2)
def sgTop (r : Nat → Int32) (q : Nat) (lf : Int32) : Int32 := up1 (up1 (up1 lf (r 11) (8 + q)) (r 12) ((8 + q) / 2)) (r 13) ((8 + q) / 2 / 2)
def sgOk (r : Nat → Int32) (rt : Int32) : Bool :=
  if r 4 < 0 then false else if nI 8 ≤ r 4 then false else decide (sgTop r (r 4).toNatClampNeg (sgLeaf r (r 4).toNatClampNeg) = rt)
def isVer (v : Int32) : Bool := if v < nI 1 then false else if nI 32 < v then false else true
def stOk (r : Nat → Int32) (k : Nat) : Bool := decide (r (1 + k) = hh (r (14 + k)) (nI k))
def wrong (r : Nat → Int32) (rt : Int32) : Int32 :=
  if isVer (r 0) = false then nI 1 else if sgOk r rt = false then nI 2 else if stOk r 0 = false then nI 3 else if stOk r 1 = false then nI 4 else if stOk r 2 = false then nI 5 else nI 0
/-- an attempt: the answer, the rows entered, how many, the measure -/
def att (r : Nat → Int32) (bl : Nat) (rt : Int32) (en : Nat → Int32) : Bool × (Nat → Int32) × Nat × Int32 :=
  if isVer (r 0) = false then (false, en, 0, nI 0) else if r 0 < nI bl then (false, en, 0, nI 0) else if sgOk r rt = false then (false, en, 0, nI 0)
  else if stOk r 0 = false then (false, en, 0, nI 0)
  else if stOk r 1 = false then (false, upd en 0 (r 1), 1, hh (nI 0) (r 1))
  else if stOk r 2 = false then (false, upd (upd en 0 (r 1)) 1 (r 2), 2, hh (hh (nI 0) (r 1)) (r 2))
  else (true, upd (upd (upd en 0 (r 1)) 1 (r 2)) 2 (r 3), 3, hh (hh (hh (nI 0) (r 1)) (r 2)) (r 3))
def good (M : Nat → Int32) (k : Nat) : Bool := decide (M (34 + 3 * k + 2) = ck (M (34 + 3 * k)) (M (34 + 3 * k + 1)))
def cur (M : Nat → Int32) : Int32 :=
  if good M 0 = true then (if good M 1 = true then (if M 37 ≤ M 34 then nI 0 else nI 1) else nI 0) else if good M 1 = true then nI 1 else -1
def ety (M : Nat → Int32) : Int32 := if cur M = -1 then nI 0 else if cur M = nI 0 then M 35 else M 38
def srl (M : Nat → Int32) : Int32 := if cur M = -1 then nI 1 else if cur M = nI 0 then M 34 + nI 1 else M 37 + nI 1
def plc (M : Nat → Int32) : Nat := if cur M = nI 0 then 37 else 34
theorem cur_cases (M : Nat → Int32) : cur M = -1 ∨ cur M = nI 0 ∨ cur M = nI 1 := by
  unfold cur
  repeat' split
  all_goals simp
abbrev ST : Type := (Nat → Int32) × Int32 × Int32
def pMay (dn lf : Int32) : Bool × Int32 × Int32 := if lf = 0 then (false, dn, -1) else if lf ≤ 0 then (true, dn + nI 1, lf) else (true, dn + nI 1, lf - nI 1)
def pPut (M : Nat → Int32) (dn lf : Int32) (k : Nat) (x : Int32) : Bool × ST := match pMay dn lf with
  | (true, dn', lf') => (true, upd M k x, dn', lf')
  | (false, dn', lf') => (false, M, dn', lf')
def sq (o : Bool × ST) (f : ST → Bool × ST) : Bool × ST := match o with
  | (true, u) => f u
  | (false, u) => (false, u)
def tab3 (pl : Nat) (sr e : Int32) (M : Nat → Int32) (dn lf : Int32) : Bool × ST :=
  sq (pPut M dn lf pl sr) (fun u => sq (pPut u.1 u.2.1 u.2.2 (pl + 1) e) (fun u => pPut u.1 u.2.1 u.2.2 (pl + 2) (ck sr e)))
def pTab (M : Nat → Int32) (dn lf e : Int32) : Bool × ST := tab3 (plc M) (srl M) (e &&& nI 31) M dn lf
def wpL (src : Nat → Int32) (pl : Nat) : Nat → Nat → ST → Bool × ST
  | 0, _, u => (true, u)
  | n + 1, i, u => sq (pPut u.1 u.2.1 u.2.2 (pl + i) (src i)) (fun u => wpL src pl n (i + 1) u)
def gl (v : Int32) : Nat := if v < 0 then 0 else if 32 < v.toNatClampNeg then 32 else v.toNatClampNeg
def bw : Nat → Nat → Int32 → Int32 → Bool × Nat × Int32 × Int32
  | 0, bl, dn, lf => (true, bl, dn, lf)
  | n + 1, bl, dn, lf => match pMay dn lf with
    | (true, dn', lf') => bw n (bl + 1) dn' lf'
    | (false, dn', lf') => (false, bl, dn', lf')
def pBlow (v : Int32) (bl : Nat) (dn lf : Int32) : Bool × Nat × Int32 × Int32 := bw (gl v - bl) bl dn lf
def isPl (v : Int32) : Bool := if v < 0 then false else if nI 40 ≤ v then false else true
theorem key_nat {x : Int32} (h1 : ¬ x < 0) (h2 : ¬ nI 8 ≤ x) : ∃ q : Nat, q < 8 ∧ x = nI q := by
  rcases pk_ix x (n := 8) (by decide) with h | h | ⟨j, h, e⟩
  · exact absurd h h1
  · exact absurd h h2
  · exact ⟨j, h, e⟩
theorem sgOk_q {r : Nat → Int32} {rt : Int32} {q : Nat} (hq : r 4 = nI q) (h8 : q < 8) : sgOk r rt = decide (sgTop r q (sgLeaf r q) = rt) := by
  unfold sgOk
  rw [hq, nI_clamp (by omega), if_neg (nI_pos (by omega)), if_neg (nI_ge (by omega) (by decide))]
def sib (n : Nat) : Nat := if n % 2 = 0 then n + 1 else n - 1
theorem sib_lt {n : Nat} (h : n < 16) : sib n < 16 := by
  unfold sib
  split <;> omega
theorem sib_all : ∀ n, n < 16 → nI n ^^^ nI 1 = nI (sib n) := by decide
theorem sib_eq {n : Nat} (h : n < 16) : nI n ^^^ nI 1 = nI (sib n) := sib_all n h
def stg (f : Nat → Int32) (b k : Nat) (im : Int32) : Nat → Int32 := upd (upd f (b + (1 + k)) (hh im (nI k))) (b + (14 + k)) im
def chv (sc : Int32) (q : Nat) (m : Int32) (i : Nat) : Int32 := al i (dgt m i) 0 (cs sc q i)
def putC (sc : Int32) (q b : Nat) (m : Int32) (f : Nat → Int32) : Nat → Int32 := upd (upd (upd (upd (upd (upd f (b + 5) (chv sc q m 0)) (b + 6) (chv sc q m 1)) (b + 7) (chv sc q m 2)) (b + 8) (chv sc q m 3)) (b + 9) (chv sc q m 4)) (b + 10) (chv sc q m 5)
def putCh (sc : Int32) (q b : Nat) (f : Nat → Int32) : Nat → Int32 := putC sc q b (ms4 (fun i => f (b + i))) f
def putPa (nd : Nat → Int32) (q b : Nat) (f : Nat → Int32) : Nat → Int32 := upd (upd (upd f (b + 11) (nd (sib (8 + q)))) (b + 12) (nd (sib ((8 + q) / 2)))) (b + 13) (nd (sib ((8 + q) / 2 / 2)))
def pk17 (sc : Int32) (nd : Nat → Int32) (nk b : Nat) (ve a0 a1 a2 : Int32) (f : Nat → Int32) : Nat × (Nat → Int32) :=
  (nk + 1, putPa nd nk b (putCh sc nk b (upd (stg (stg (stg (upd f b ve) b 0 a0) b 1 a1) b 2 a2) (b + 4) (nI nk))))
def hom (en : Int32) : Nat := en.toBitVec.toNat % 2 ^ 1
def stt (en : Int32) (k : Nat) : Nat := (ush en (nI (1 + 2 * k))).toBitVec.toNat % 2 ^ 2
theorem hom_lt (en : Int32) : hom en < 2 := Nat.mod_lt _ (by decide)
theorem stt_lt (en : Int32) (k : Nat) : stt en k < 4 := Nat.mod_lt _ (by decide)
def who (en : Int32) (k : Nat) : Int32 := (en &&& (-2)) ||| nI k
def wst (en : Int32) (k v : Nat) : Int32 := (en &&& ((nI 3 <<< (nI (1 + 2 * k) &&& 31)) ^^^ (-1))) ||| (nI v <<< (nI (1 + 2 * k) &&& 31))
def trl (en : Int32) : Int32 := if stt en (1 - hom en) = 2 then nI (1 - hom en) else if stt en (hom en) = 2 then nI (hom en) else -1
def tE (sc : Int32) (q : Nat) (ed : Nat → Int32) : Nat → Int32 := upd (upd (upd (upd (upd (upd ed 0 (al 0 15 0 (cs sc q 0))) 1 (al 1 15 0 (cs sc q 1))) 2 (al 2 15 0 (cs sc q 2))) 3 (al 3 15 0 (cs sc q 3))) 4 (al 4 15 0 (cs sc q 4))) 5 (al 5 15 0 (cs sc q 5))
def tL (sc : Int32) : Nat → Nat → (Nat → Int32) × (Nat → Int32) → (Nat → Int32) × (Nat → Int32)
  | 0, _, u => u
  | n + 1, q, u => tL sc n (q + 1) (tE sc q u.1, upd u.2 (8 + q) (lf6 (nI q) (tE sc q u.1)))
def tn (f : Nat → Int32) (n : Nat) : Nat → Int32 := upd f n (ab (f (2 * n)) (f (2 * n + 1)) n)
def tU (f : Nat → Int32) : Nat → Int32 := tn (tn (tn (tn (tn (tn (tn f 7) 6) 5) 4) 3) 2) 1
/-- the maker's tree: the nodes of a secret -/
def ndV (sc : Int32) : Nat → Int32 := tU (fun j => mkLeaf sc (j - 8))
def root (sc : Int32) : Int32 := ndV sc 1
theorem tn_congr {f g : Nat → Int32} {n : Nat} (h1 : 1 ≤ n) (h7 : n ≤ 7) (h : ∀ j, n < j → j < 16 → f j = g j) : ∀ j, n - 1 < j → j < 16 → tn f n j = tn g n j := by
  intro j hj hj2
  unfold tn upd
  rw [h (2 * n) (by omega) (by omega), h (2 * n + 1) (by omega) (by omega)]
  split
  · rfl
  · exact h j (by omega) hj2
theorem tU_congr {f g : Nat → Int32} (h : ∀ j, 7 < j → j < 16 → f j = g j) : ∀ j, 0 < j → j < 16 → tU f j = tU g j :=
  tn_congr (by decide) (by decide) (tn_congr (n := 2) (by decide) (by decide) (tn_congr (n := 3) (by decide) (by decide) (tn_congr (n := 4) (by decide) (by decide) (tn_congr (n := 5) (by decide) (by decide) (tn_congr (n := 6) (by decide) (by decide) (tn_congr (n := 7) (by decide) (by decide) h))))))
theorem lf_tE (sc : Int32) (q : Nat) (ed : Nat → Int32) : lf6 (nI q) (tE sc q ed) = mkLeaf sc q := by
  simp [lf6, mkLeaf, tE, upd]
theorem tL_nd (sc : Int32) : ∀ (n q : Nat) (u : (Nat → Int32) × (Nat → Int32)) (j : Nat), (tL sc n q u).2 j = if 8 + q ≤ j ∧ j < 8 + q + n then mkLeaf sc (j - 8) else u.2 j := by
  intro n
  induction n with
  | zero => intro q u j; rw [if_neg (by omega)]; rfl
  | succ n ih =>
    intro q u j
    rw [tL, ih]
    by_cases h : j = 8 + q
    · subst h
      rw [if_neg (by omega), if_pos (by omega)]
      show upd _ _ _ _ = _
      rw [pk_us, show 8 + q - 8 = q by omega]
      exact lf_tE sc q u.1
    · by_cases h2 : 8 + (q + 1) ≤ j ∧ j < 8 + (q + 1) + n
      · rw [if_pos h2, if_pos (by omega)]
      · rw [if_neg h2, if_neg (by omega)]
        exact pk_un h
def tree (sc : Int32) (ed nd : Nat → Int32) : (Nat → Int32) × (Nat → Int32) := ((tL sc 8 0 (ed, nd)).1, tU (tL sc 8 0 (ed, nd)).2)
def keyS (sc : Int32) (ed nd : Nat → Int32) : Int32 × (Nat → Int32) × (Nat → Int32) := ((tree sc ed nd).2 1, tree sc ed nd)
theorem tree_at (sc : Int32) (ed nd : Nat → Int32) : ∀ j, 0 < j → j < 16 → (tree sc ed nd).2 j = ndV sc j := by
  refine tU_congr (fun j h1 h2 => ?_)
  rw [tL_nd, if_pos (by omega)]
theorem keyS_root (sc : Int32) (ed nd : Nat → Int32) : (keyS sc ed nd).1 = root sc := tree_at sc ed nd 1 (by decide) (by decide)
def digs (m : Int32) (dg : Nat → Int32) : Nat → Int32 := upd (upd (upd (upd (upd (upd dg 0 (nI (nb4 m 0))) 1 (nI (nb4 m 1))) 2 (nI (nb4 m 2))) 3 (nI (nb4 m 3))) 4 (nI (rs4 m % 2 ^ 4))) 5 (nI (rs4 m / 2 ^ 4))
theorem key_nat7 {x : Int32} (h1 : ¬ x < 0) (h2 : x ≤ nI 7) : ∃ q : Nat, q < 8 ∧ x = nI q := by
  obtain ⟨j, hj, e⟩ := nI_of h1
  subst e
  exact ⟨j, by have := (nI_leI hj (by decide : 7 < 2 ^ 31)).mp h2; omega, rfl⟩
theorem sgOk_hi {r : Nat → Int32} {rt : Int32} (h1 : ¬ r 4 < 0) (h2 : ¬ r 4 ≤ nI 7) : sgOk r rt = false := by
  unfold sgOk
  rw [if_neg h1]
  obtain ⟨j, hj, e⟩ := nI_of h1
  rw [e] at h2
  have h3 : ¬ j ≤ 7 := fun h => h2 ((nI_leI hj (by decide : 7 < 2 ^ 31)).mpr h)
  rw [if_pos]
  rw [e]
  exact (nI_leI (by decide) hj).mpr (by omega)
theorem digs_at (m : Int32) (dg : Nat → Int32) : ∀ i, i < 6 → digs m dg i = nI (dgt m i) := by
  intro i hi
  obtain rfl | rfl | rfl | rfl | rfl | rfl : i = 0 ∨ i = 1 ∨ i = 2 ∨ i = 3 ∨ i = 4 ∨ i = 5 := by omega
  all_goals rfl
def mMay (dd : Bool) (dn lf : Int32) : Bool × Bool × Int32 × Int32 := if dd = true then (false, dd, dn, lf) else if lf = 0 then (false, true, dn, -1) else if lf ≤ 0 then (true, dd, dn + nI 1, lf) else (true, dd, dn + nI 1, lf - nI 1)
def mPut (M : Nat → Int32) (dd : Bool) (dn lf : Int32) (k : Nat) (x : Int32) : (Nat → Int32) × Bool × Int32 × Int32 := match mMay dd dn lf with
  | (true, dd', dn', lf') => (upd M k x, dd', dn', lf')
  | (false, dd', dn', lf') => (M, dd', dn', lf')
def isPk (v : Int32) (n : Nat) : Bool := if v < 0 then false else if nI n ≤ v then false else true
def isPw (v w : Int32) (n : Nat) : Bool := if isPk v n = false then false else if w < 0 then false else if nI 17 ≤ w then false else true
theorem isPk_t {j n : Nat} (h : j < n) (hn : n < 2 ^ 31) : isPk (nI j) n = true := by
  unfold isPk
  rw [if_neg (nI_pos (by omega)), if_neg (nI_ge h hn)]
theorem pk_or {v : Int32} {n : Nat} (hn : n < 2 ^ 31) : (∃ j, j < n ∧ v = nI j ∧ isPk (nI j) n = true) ∨ isPk v n = false := by
  rcases pk_ix v hn with h | h | ⟨j, h, e⟩
  · right; unfold isPk; rw [if_pos h]
  · right; unfold isPk; split
    · rfl
    · rfl
  · exact Or.inl ⟨j, h, e, isPk_t h hn⟩
theorem pw_or {v w : Int32} {n : Nat} (hn : n < 2 ^ 31) : (∃ j i, j < n ∧ i < 17 ∧ v = nI j ∧ w = nI i ∧ isPw (nI j) (nI i) n = true) ∨ isPw v w n = false := by
  rcases pk_or (v := v) hn with ⟨j, hj, e, ht⟩ | h
  · rcases pk_or (v := w) (n := 17) (by decide) with ⟨i, hi, e2, ht2⟩ | h2
    · refine Or.inl ⟨j, i, hj, hi, e, e2, ?_⟩
      unfold isPw
      rw [ht, if_neg (by decide)]
      exact ht2
    · right
      unfold isPw
      split
      · rfl
      · exact h2
  · right; unfold isPw; rw [if_pos h]
theorem pl_or (v : Int32) : (∃ j, j < 40 ∧ v = nI j ∧ isPl (nI j) = true) ∨ isPl v = false := pk_or (v := v) (n := 40) (by decide)
theorem sta_cases (v : Int32) : v = nI 0 ∨ v = nI 1 ∨ (¬ v = nI 0 ∧ ¬ v = nI 1) := by
  by_cases h0 : v = nI 0
  · exact Or.inl h0
  · by_cases h1 : v = nI 1
    · exact Or.inr (Or.inl h1)
    · exact Or.inr (Or.inr ⟨h0, h1⟩)
def sta (en v : Int32) : Int32 := if v = nI 0 then nI (stt en 0) else if v = nI 1 then nI (stt en 1) else -1
def flt (v : Int32) (n : Nat) (pk : Nat → Int32) (rt : Int32) : Int32 := if isPk v n = true then wrong (fun i => pk (v.toNatClampNeg * 17 + i)) rt else -1
def wrd (v w : Int32) (n : Nat) (pk : Nat → Int32) : Int32 := if isPw v w n = true then pk (v.toNatClampNeg * 17 + w.toNatClampNeg) else nI 0
def alt (v w x : Int32) (n : Nat) (pk : Nat → Int32) : Bool × (Nat → Int32) := if isPw v w n = true then (true, upd pk (v.toNatClampNeg * 17 + w.toNatClampNeg) x) else (false, pk)
def pee (v : Int32) (M : Nat → Int32) : Int32 := if isPl v = true then M v.toNatClampNeg else nI 0
def pok (v x : Int32) (M : Nat → Int32) : Bool × (Nat → Int32) := if isPl v = true then (true, upd M v.toNatClampNeg x) else (false, M)
def cutS (v lf : Int32) : Bool × Int32 := if -1 ≤ v then (true, v) else (false, lf)
def lgv (v : Int32) (n : Nat) (en : Nat → Int32) : Int32 := if v = -1 then nI n else if isPk v n = true then en v.toNatClampNeg else nI 0
theorem nI_m1 {j : Nat} (h : j < 2 ^ 31) : ¬ nI j = -1 := by
  intro e
  have h1 := nI_pos' h
  rw [e] at h1
  exact absurd h1 (by decide)
theorem lg_or {v : Int32} {n : Nat} (hn : n < 2 ^ 31) : v = -1 ∨ (∃ j, j < n ∧ v = nI j) ∨ (¬ v = -1 ∧ (v < 0 ∨ nI n ≤ v)) := by
  by_cases h1 : v = -1
  · exact Or.inl h1
  · rcases pk_ix v hn with h | h | ⟨j, h, e⟩
    · exact Or.inr (Or.inr ⟨h1, Or.inl h⟩)
    · exact Or.inr (Or.inr ⟨h1, Or.inr h⟩)
    · exact Or.inr (Or.inl ⟨j, h, e⟩)
theorem lgv_in {j n : Nat} {en : Nat → Int32} (h : j < n) (hn : n < 2 ^ 31) : lgv (nI j) n en = en j := by
  unfold lgv
  rw [if_neg (nI_m1 (by omega)), isPk_t h hn, if_pos rfl, nI_clamp (by omega)]
theorem lgv_out {v : Int32} {n : Nat} {en : Nat → Int32} (h : ¬ v = -1) (h2 : v < 0 ∨ nI n ≤ v) : lgv v n en = nI 0 := by
  unfold lgv isPk
  rw [if_neg h]
  rcases h2 with h2 | h2
  · rw [if_pos h2]; rfl
  · rw [if_pos h2]; split <;> rfl
def entr (x : Int32) (en : Nat → Int32) (ec : Nat) (me : Int32) : (Nat → Int32) × Nat × Int32 := if 3 ≤ ec then (en, ec, hh me x) else (upd en ec x, ec + 1, hh me x)
def noW (v w : Int32) (n : Nat) : Bool := if v < 0 then true else if nI n ≤ v then true else if w < 0 then true else if w ≤ nI 16 then false else true
theorem le16 {w : Int32} (h : ¬ w < 0) : w ≤ nI 16 ↔ ¬ nI 17 ≤ w := by
  obtain ⟨j, hj, rfl⟩ := nI_of h
  rw [nI_leI hj (by decide), nI_leI (by decide) hj]
  omega
theorem noW_eq (v w : Int32) (n : Nat) : noW v w n = !isPw v w n := by
  unfold noW isPw isPk
  by_cases h1 : v < 0
  · simp [h1]
  · by_cases h2 : nI n ≤ v
    · simp [h1, h2]
    · by_cases h3 : w < 0
      · simp [h1, h2, h3]
      · by_cases h4 : nI 17 ≤ w
        · simp [h1, h2, h3, h4, (le16 h3)]
        · simp [h1, h2, h3, h4, (le16 h3)]
def altM (v w x : Int32) (n : Nat) (M : Nat → Int32) : Bool × (Nat → Int32) := if isPw v w n = true then (true, upd M (40 + 17 * v.toNatClampNeg + w.toNatClampNeg) x) else (false, M)
def wrdM (v w : Int32) (n : Nat) (M : Nat → Int32) : Int32 := if isPw v w n = true then M (40 + 17 * v.toNatClampNeg + w.toNatClampNeg) else nI 0
def strg (r : Nat → Int32) : Nat := if stOk r 0 = true then (if stOk r 1 = true then (if stOk r 2 = true then 3 else 2) else 1) else 0
theorem pl_orM (v : Int32) : (∃ j, j < 40 ∧ v = nI j ∧ isPl (nI j) = true ∧ True) ∨ (isPl v = false ∧ (v < 0 ∨ ¬ v ≤ nI 39)) := by
  rcases pk_ix v (n := 40) (by decide) with h | h | ⟨j, h, e⟩
  · refine Or.inr ⟨?_, Or.inl h⟩
    unfold isPl; rw [if_pos h]
  · by_cases h0 : v < 0
    · refine Or.inr ⟨?_, Or.inl h0⟩
      unfold isPl; rw [if_pos h0]
    · refine Or.inr ⟨?_, Or.inr ?_⟩
      · unfold isPl; rw [if_neg h0, if_pos h]
      · obtain ⟨j, hj, rfl⟩ := nI_of h0
        rw [nI_leI (by decide) hj] at h
        rw [nI_leI hj (by decide)]
        omega
  · exact Or.inl ⟨j, h, e, isPk_t (n := 40) h (by decide), trivial⟩
theorem sta_n {en : Int32} {k : Nat} (h : k < 2) : sta en (nI k) = nI (stt en k) := by
  obtain rfl | rfl : k = 0 ∨ k = 1 := by omega
  · rfl
  · rfl
def answ (g : Int32) (dd : Bool) (rn : Int32) (tr : Bool) (lg : Nat) (me : Int32) : Int32 × Bool × Int32 × Bool × Nat × Int32 := if dd = true then (-1, false, -1, false, 0, nI 0) else (g, dd, rn, tr, lg, me)
theorem cur_ne : ¬ (nI 0 = -1) ∧ ¬ (nI 1 = -1) ∧ ¬ (nI 1 = nI 0) ∧ ¬ ((-1 : Int32) = nI 0) := by decide
theorem srl_m {M : Nat → Int32} (h : cur M = -1) : nI 1 = srl M := by rw [srl, if_pos h]
theorem srl_0 {M : Nat → Int32} (h : cur M = nI 0) : nI 1 + M 34 = srl M := by rw [srl, h, if_neg cur_ne.1, if_pos rfl, Int32.add_comm]
theorem srl_1 {M : Nat → Int32} (h : cur M = nI 1) : nI 1 + M 37 = srl M := by rw [srl, h, if_neg cur_ne.2.1, if_neg cur_ne.2.2.1, Int32.add_comm]
theorem plc_m {M : Nat → Int32} (h : cur M = -1) : nI 34 = nI (plc M) := by rw [plc, h, if_neg cur_ne.2.2.2]
theorem plc_0 {M : Nat → Int32} (h : cur M = nI 0) : nI 37 = nI (plc M) := by rw [plc, h, if_pos rfl]
theorem plc_1 {M : Nat → Int32} (h : cur M = nI 1) : nI 34 = nI (plc M) := by rw [plc, h, if_neg cur_ne.2.2.1]
theorem srlC_m {M : Nat → Int32} (h : cur M = -1) : srl M = nI 1 := by rw [srl, if_pos h]
theorem srlC_0 {M : Nat → Int32} (h : cur M = nI 0) : srl M = M 34 + nI 1 := by rw [srl, h, if_neg cur_ne.1, if_pos rfl]
theorem srlC_1 {M : Nat → Int32} (h : cur M = nI 1) : srl M = M 37 + nI 1 := by rw [srl, h, if_neg cur_ne.2.1, if_neg cur_ne.2.2.1]
theorem plcN_m {M : Nat → Int32} (h : cur M = -1) : plc M = 34 := by rw [plc, h, if_neg cur_ne.2.2.2]
theorem plcN_0 {M : Nat → Int32} (h : cur M = nI 0) : plc M = 37 := by rw [plc, h, if_pos rfl]
theorem plcN_1 {M : Nat → Int32} (h : cur M = nI 1) : plc M = 34 := by rw [plc, h, if_neg cur_ne.2.2.1]
theorem plc_le (M : Nat → Int32) : plc M ≤ 37 := by unfold plc; split <;> decide
/-- the entry that the reference writes -/
def tbe (k v g o : Nat) : Nat := if k = 0 then g + (2 * v + 8 * o) else g + (2 * o + 8 * v)
def mTab (e : Nat) (M : Nat → Int32) (dd : Bool) (dn lf : Int32) : (Nat → Int32) × Bool × Int32 × Int32 := match mPut M dd dn lf (plc M) (srl M) with
  | (M1, dd1, dn1, lf1) => match mPut M1 dd1 dn1 lf1 (plc M + 1) (nI e) with
    | (M2, dd2, dn2, lf2) => mPut M2 dd2 dn2 lf2 (plc M + 2) (ck (srl M) (nI e))
def mBs (v : Int32) (u : Nat × Bool × Int32 × Int32) : Nat × Bool × Int32 × Int32 := if v ≤ nI u.1 then u else if 32 ≤ u.1 then u else match mMay u.2.1 u.2.2.1 u.2.2.2 with
  | (true, dd, dn, lf) => (u.1 + 1, dd, dn, lf)
  | (false, dd, dn, lf) => (u.1, dd, dn, lf)
def mBl (v : Int32) : Nat → Nat × Bool × Int32 × Int32 → Nat × Bool × Int32 × Int32
  | 0, u => u
  | n + 1, u => mBl v n (mBs v u)
theorem strg_cases (r : Nat → Int32) : strg r = 0 ∨ strg r = 1 ∨ strg r = 2 ∨ strg r = 3 := by
  unfold strg
  repeat' split
  all_goals simp
section ATT
variable {r : Nat → Int32} {bl : Nat} {rt : Int32} {en : Nat → Int32}
theorem att_lo (h1 : r 0 < nI 1) : att r bl rt en = (false, en, 0, nI 0) := by
  unfold att isVer
  simp [h1]
theorem att_hi (h1 : ¬ r 0 < nI 1) (h2 : nI 32 < r 0) : att r bl rt en = (false, en, 0, nI 0) := by
  unfold att isVer
  simp [h1, h2]
theorem att_bl (h1 : ¬ r 0 < nI 1) (h2 : ¬ nI 32 < r 0) (h3 : r 0 < nI bl) : att r bl rt en = (false, en, 0, nI 0) := by
  unfold att isVer
  simp [h1, h2, h3]
theorem att_sg (h1 : ¬ r 0 < nI 1) (h2 : ¬ nI 32 < r 0) (h3 : ¬ r 0 < nI bl) (h4 : sgOk r rt = false) : att r bl rt en = (false, en, 0, nI 0) := by
  unfold att isVer
  simp [h1, h2, h3, h4]
theorem strg_0 (h : strg r = 0) : stOk r 0 = false := by
  unfold strg at h
  cases h0 : stOk r 0 <;> cases h1 : stOk r 1 <;> cases h2 : stOk r 2 <;> simp_all
theorem strg_1 (h : strg r = 1) : stOk r 0 = true ∧ stOk r 1 = false := by
  unfold strg at h
  cases h0 : stOk r 0 <;> cases h1 : stOk r 1 <;> cases h2 : stOk r 2 <;> simp_all
theorem strg_2 (h : strg r = 2) : stOk r 0 = true ∧ stOk r 1 = true ∧ stOk r 2 = false := by
  unfold strg at h
  cases h0 : stOk r 0 <;> cases h1 : stOk r 1 <;> cases h2 : stOk r 2 <;> simp_all
theorem strg_3 (h : strg r = 3) : stOk r 0 = true ∧ stOk r 1 = true ∧ stOk r 2 = true := by
  unfold strg at h
  cases h0 : stOk r 0 <;> cases h1 : stOk r 1 <;> cases h2 : stOk r 2 <;> simp_all
theorem att_0 (h1 : ¬ r 0 < nI 1) (h2 : ¬ nI 32 < r 0) (h3 : ¬ r 0 < nI bl) (h4 : sgOk r rt = true) (h : strg r = 0) : att r bl rt en = (false, en, 0, nI 0) := by
  unfold att isVer
  simp [h1, h2, h3, h4, strg_0 h]
theorem att_1 (h1 : ¬ r 0 < nI 1) (h2 : ¬ nI 32 < r 0) (h3 : ¬ r 0 < nI bl) (h4 : sgOk r rt = true) (h : strg r = 1) : att r bl rt en = (false, upd en 0 (r 1), 1, hh (nI 0) (r 1)) := by
  unfold att isVer
  simp [h1, h2, h3, h4, strg_1 h]
theorem att_2 (h1 : ¬ r 0 < nI 1) (h2 : ¬ nI 32 < r 0) (h3 : ¬ r 0 < nI bl) (h4 : sgOk r rt = true) (h : strg r = 2) : att r bl rt en = (false, upd (upd en 0 (r 1)) 1 (r 2), 2, hh (hh (nI 0) (r 1)) (r 2)) := by
  unfold att isVer
  simp [h1, h2, h3, h4, strg_2 h]
theorem att_3 (h1 : ¬ r 0 < nI 1) (h2 : ¬ nI 32 < r 0) (h3 : ¬ r 0 < nI bl) (h4 : sgOk r rt = true) (h : strg r = 3) : att r bl rt en = (true, upd (upd (upd en 0 (r 1)) 1 (r 2)) 2 (r 3), 3, hh (hh (hh (nI 0) (r 1)) (r 2)) (r 3)) := by
  unfold att isVer
  simp [h1, h2, h3, h4, strg_3 h]
end ATT
theorem gl_or (v : Int32) : ((if nI 32 < v then nI 32 else v) < 0 ∧ gl v = 0) ∨ ((if nI 32 < v then nI 32 else v) = nI (gl v) ∧ gl v ≤ 32) := by
  unfold gl
  by_cases h : v < 0
  · left
    have h2 : ¬ nI 32 < v := by
      intro h3
      exact absurd (Int32.lt_trans h3 h) (by decide)
    rw [if_neg h2, if_pos h]
    exact ⟨h, rfl⟩
  · right
    obtain ⟨j, hj, rfl⟩ := nI_of h
    have e := nI_ltI (a := 32) (b := j) (by decide) hj
    rw [if_neg h, nI_clamp hj]
    by_cases h3 : 32 < j
    · rw [if_pos (e.mpr h3), if_pos h3]; exact ⟨rfl, by decide⟩
    · rw [if_neg (fun z => h3 (e.mp z)), if_neg h3]; exact ⟨rfl, by omega⟩
theorem neg_le {g : Int32} {k : Nat} (h : g < 0) (hk : k < 2 ^ 31) : g ≤ nI k := Int32.le_trans (Int32.le_of_lt h) (nI_pos' hk)
def rplC (k : Nat) (src : Nat → Int32) (M : Nat → Int32) (dn lf : Int32) : Bool × ST :=
  sq (pTab M dn lf (who (wst (ety M) k 0) (1 - k))) (fun u => sq (wpL src (k * 17) 17 0 u) (fun u => pTab u.1 u.2.1 u.2.2 (wst (ety u.1) k 2)))
def tsSign (sc : Int32) (nd : Nat → Int32) (cn nk : Nat) (ve a0 a1 a2 : Int32) (pk : Nat → Int32) : Int32 × Nat × Nat × (Nat → Int32) :=
  if isVer ve = false then (-1, cn, nk, pk) else if 8 ≤ nk then (-1, cn, nk, pk) else if cn < 7 then
    (match pk17 sc nd nk (cn * 17) ve a0 a1 a2 pk with
    | (nk', pk') => (nI cn, cn + 1, nk', pk')) else (-1, cn, nk, pk)
theorem isPw_0 (v : Int32) (n : Nat) : isPw v (nI 0) n = isPk v n := by
  unfold isPw
  cases h : isPk v n
  · rfl
  · rfl
theorem noW_0 (v : Int32) (n : Nat) : noW v (nI 0) n = !isPk v n := by rw [noW_eq, isPw_0]
def sg3 (b : Nat) (M : Nat → Int32) : Nat → Int32 := upd (upd (upd M (b + 1) (hh (M (b + 14)) (nI 0))) (b + 2) (hh (M (b + 15)) (nI 1))) (b + 3) (hh (M (b + 16)) (nI 2))
def sealM (sc : Int32) (q b : Nat) (M : Nat → Int32) : Nat → Int32 := putPa (ndV sc) q b (putCh sc q b (sg3 b M))
def moSign (sc : Int32) (cn : Nat) (ve a0 a1 a2 : Int32) (M : Nat → Int32) : Int32 × Nat × (Nat → Int32) :=
  if ve < nI 1 then (-1, cn, M) else if nI 32 < ve then (-1, cn, M) else if cn = 7 then (-1, cn, M) else
    (nI (cn + 1 - 1), cn + 1, sealM sc (cn + 1) (40 + 17 * cn) (upd (upd (upd (upd (upd M (40 + 17 * cn) ve) (40 + 17 * cn + 4) (nI (cn + 1))) (40 + 17 * cn + 14) a0) (40 + 17 * cn + 15) a1) (40 + 17 * cn + 16) a2))
def fltM (v : Int32) (n : Nat) (M : Nat → Int32) (rt : Int32) : Int32 := if isPk v n = true then wrong (fun i => M (40 + 17 * v.toNatClampNeg + i)) rt else -1
theorem strg_le (r : Nat → Int32) : strg r ≤ 3 := by
  rcases strg_cases r with h | h | h | h <;> omega
section WR
variable {r : Nat → Int32} {rt : Int32}
theorem lt32 {v : Int32} : v ≤ nI 32 ↔ ¬ nI 32 < v := Int32.not_lt.symm
theorem wrong_lo (h1 : r 0 < nI 1) : wrong r rt = nI 1 := by
  unfold wrong isVer
  simp [h1]
theorem wrong_hi (h1 : ¬ r 0 < nI 1) (h2 : ¬ r 0 ≤ nI 32) : wrong r rt = nI 1 := by
  have h3 : nI 32 < r 0 := by rwa [lt32, Classical.not_not] at h2
  unfold wrong isVer
  simp [h1, h3]
theorem ver_in (h1 : ¬ r 0 < nI 1) (h2 : r 0 ≤ nI 32) : isVer (r 0) = true := by
  rw [lt32] at h2
  unfold isVer
  rw [if_neg h1, if_neg h2]
theorem wrong_sg (h1 : ¬ r 0 < nI 1) (h2 : r 0 ≤ nI 32) (h3 : sgOk r rt = false) : wrong r rt = nI 2 := by
  unfold wrong
  rw [ver_in h1 h2, if_neg (by decide), if_pos h3]
theorem wrong_k (h1 : ¬ r 0 < nI 1) (h2 : r 0 ≤ nI 32) (h3 : sgOk r rt = true) (h4 : ¬ 3 ≤ strg r) : wrong r rt = nI (3 + strg r) := by
  unfold wrong
  rw [ver_in h1 h2, h3, if_neg (by decide), if_neg (by decide)]
  rcases strg_cases r with h | h | h | h
  · rw [h]; simp [strg_0 h]
  · rw [h]; simp [strg_1 h]
  · rw [h]; simp [strg_2 h]
  · omega
theorem wrong_0 (h1 : ¬ r 0 < nI 1) (h2 : r 0 ≤ nI 32) (h3 : sgOk r rt = true) (h4 : 3 ≤ strg r) : wrong r rt = nI 0 := by
  unfold wrong
  rw [ver_in h1 h2, h3, if_neg (by decide), if_neg (by decide)]
  rcases strg_cases r with h | h | h | h
  · omega
  · omega
  · omega
  · simp [strg_3 h]
end WR
def cfm (M : Nat → Int32) (k : Nat) : Bool := decide (stt (ety M) k = 3)
theorem hom_or (e : Int32) : hom e = 0 ∨ hom e = 1 := by
  have h := hom_lt e
  omega
def t1 (k : Nat) (M : Nat → Int32) (rt : Int32) (en : Nat → Int32) (ec : Nat) (me : Int32) (bl : Nat) : Bool × (Nat → Int32) × Nat × Int32 := if cfm M k = true then att (fun i => M (k * 17 + i)) bl rt en else (false, en, ec, me)
abbrev SCT : Type := Int32 × Int32 × Bool × (Nat → Int32) × Nat × Int32 × Nat × Int32 × Int32
def blw (k : Nat) (M : Nat → Int32) (tr : Bool) (en : Nat → Int32) (ec : Nat) (me : Int32) (bl : Nat) (dn lf : Int32) : SCT := match pBlow (M (k * 17)) bl dn lf with
  | (true, bl', dn', lf') => (nI k, nI k, tr, en, ec, me, bl', dn', lf')
  | (false, bl', dn', lf') => (-1, -1, false, en, 0, nI 0, bl', dn', lf')
def scC (M : Nat → Int32) (rt rn : Int32) (tr : Bool) (en : Nat → Int32) (ec : Nat) (me : Int32) (bl : Nat) (dn lf : Int32) : SCT :=
  match t1 (hom (ety M)) M rt en ec me bl with
  | (true, en1, ec1, me1) => blw (hom (ety M)) M tr en1 ec1 me1 bl dn lf
  | (false, en1, ec1, me1) => match t1 (1 - hom (ety M)) M rt en1 ec1 me1 bl with
    | (true, en2, ec2, me2) => blw (1 - hom (ety M)) M tr en2 ec2 me2 bl dn lf
    | (false, en2, _, _) => (nI 2, nI 2, tr, en2, 0, nI 0, bl, dn, lf)
def trlO (e : Int32) : Option Nat := if stt e (1 - hom e) = 2 then some (1 - hom e) else if stt e (hom e) = 2 then some (hom e) else none
theorem trl_or (e : Int32) : (trl e = -1 ∧ trlO e = none) ∨ (trl e = nI 0 ∧ trlO e = some 0) ∨ (trl e = nI 1 ∧ trlO e = some 1) := by
  unfold trl trlO
  rcases hom_or e with h | h <;> rw [h]
  · by_cases h1 : stt e (1 - 0) = 2
    · rw [if_pos h1, if_pos h1]; exact Or.inr (Or.inr ⟨rfl, rfl⟩)
    · rw [if_neg h1, if_neg h1]
      by_cases h2 : stt e 0 = 2
      · rw [if_pos h2, if_pos h2]; exact Or.inr (Or.inl ⟨rfl, rfl⟩)
      · rw [if_neg h2, if_neg h2]; exact Or.inl ⟨rfl, rfl⟩
  · by_cases h1 : stt e (1 - 1) = 2
    · rw [if_pos h1, if_pos h1]; exact Or.inr (Or.inl ⟨rfl, rfl⟩)
    · rw [if_neg h1, if_neg h1]
      by_cases h2 : stt e 1 = 2
      · rw [if_pos h2, if_pos h2]; exact Or.inr (Or.inr ⟨rfl, rfl⟩)
      · rw [if_neg h2, if_neg h2]; exact Or.inl ⟨rfl, rfl⟩
abbrev BTT : Type := Int32 × Int32 × Bool × (Nat → Int32) × Nat × Int32 × (Nat → Int32) × Nat × Int32 × Int32
def scB (M : Nat → Int32) (o : SCT) : BTT := match o with
  | (r, rn, tr, en, ec, me, bl, dn, lf) => (r, rn, tr, en, ec, me, M, bl, dn, lf)
def btC (rt : Int32) (en : Nat → Int32) (M : Nat → Int32) (bl : Nat) (dn lf : Int32) : BTT := match trlO (ety M) with
  | none => scB M (scC M rt (-1) false en 0 (nI 0) bl dn lf)
  | some k => match pTab M dn lf (wst (ety M) k 1) with
    | (false, M1, dn1, lf1) => (-1, -1, false, en, 0, nI 0, M1, bl, dn1, lf1)
    | (true, M1, dn1, lf1) => match att (fun i => M1 (k * 17 + i)) bl rt en with
      | (true, en1, ec1, me1) => (nI k, nI k, true, en1, ec1, me1, M1, bl, dn1, lf1)
      | (false, en1, ec1, me1) => scB M1 (scC M1 rt (-1) false en1 ec1 me1 bl dn1 lf1)
abbrev UPT : Type := Int32 × Int32 × Bool × Nat × Int32 × (Nat → Int32) × Int32 × Int32
def upK (src : Nat → Int32) (rn : Int32) (tr : Bool) (ec : Nat) (me : Int32) (M : Nat → Int32) (dn lf : Int32) : UPT :=
  if rn = -1 then (-2, rn, tr, ec, me, M, dn, lf) else if tr = true then (-2, rn, tr, ec, me, M, dn, lf) else
  match rplC (1 - (if rn = nI 2 then hom (ety M) else if rn = nI 1 then 1 else 0)) src M dn lf with
  | (true, M1, dn1, lf1) => (nI 0, rn, tr, ec, me, M1, dn1, lf1)
  | (false, M1, dn1, lf1) => (-1, -1, false, 0, nI 0, M1, dn1, lf1)
def upC (v : Int32) (cn : Nat) (pk : Nat → Int32) (rn : Int32) (tr : Bool) (ec : Nat) (me : Int32) (M : Nat → Int32) (dn lf : Int32) : UPT :=
  if isPk v cn = true then upK (fun i => pk (v.toNatClampNeg * 17 + i)) rn tr ec me M dn lf else (-2, rn, tr, ec, me, M, dn, lf)
theorem up_0 : (if nI 0 = nI 2 then 5 else if nI 0 = nI 1 then 1 else 0) = 0 := by decide
theorem up_1 : (if nI 1 = nI 2 then 5 else if nI 1 = nI 1 then 1 else 0) = 1 := by decide
theorem rn_01 {rn : Int32} (h : rn = -1 ∨ rn = nI 0 ∨ rn = nI 1 ∨ rn = nI 2) (h1 : ¬ rn = -1) (h2 : ¬ rn = nI 2) : rn = nI 0 ∨ rn = nI 1 := by
  rcases h with h | h | h | h
  · exact absurd h h1
  · exact Or.inl h
  · exact Or.inr h
  · exact absurd h h2
theorem cf_or {tr : Bool} {rn : Int32} (h : tr = true → rn = nI 0 ∨ rn = nI 1) : tr = false ∨ (tr = true ∧ rn = nI 0) ∨ (tr = true ∧ rn = nI 1) := by
  cases tr
  · exact Or.inl rfl
  · rcases h rfl with h | h
    · exact Or.inr (Or.inl ⟨rfl, h⟩)
    · exact Or.inr (Or.inr ⟨rfl, h⟩)
abbrev CFT : Type := Int32 × Int32 × Bool × Nat × Int32 × (Nat → Int32) × Nat × Int32 × Int32
def cfK (k : Nat) (rn : Int32) (ec : Nat) (me : Int32) (M : Nat → Int32) (bl : Nat) (dn lf : Int32) : CFT := match pTab M dn lf (who (wst (ety M) k 3) k) with
  | (false, M1, dn1, lf1) => (-1, -1, false, 0, nI 0, M1, bl, dn1, lf1)
  | (true, M1, dn1, lf1) => match pBlow (M1 (k * 17)) bl dn1 lf1 with
    | (true, bl2, dn2, lf2) => (nI 0, rn, false, ec, me, M1, bl2, dn2, lf2)
    | (false, bl2, dn2, lf2) => (-1, -1, false, 0, nI 0, M1, bl2, dn2, lf2)
def cfC (rn : Int32) (tr : Bool) (ec : Nat) (me : Int32) (M : Nat → Int32) (bl : Nat) (dn lf : Int32) : CFT :=
  if tr = true then cfK rn.toNatClampNeg rn ec me M bl dn lf else (-2, rn, tr, ec, me, M, bl, dn, lf)
abbrev MPT : Type := (Nat → Int32) × Bool × Int32 × Int32
def mWp (b pl : Nat) : Nat → Nat → MPT → MPT
  | 0, _, u => u
  | n + 1, i, u => mWp b pl n (i + 1) (mPut u.1 u.2.1 u.2.2.1 u.2.2.2 (pl + i) (u.1 (b + i)))
abbrev MCT : Type := Int32 × Int32 × Bool × Nat × Int32 × (Nat → Int32) × Nat × Bool × Int32 × Int32
def moCfK (k : Nat) (rn : Int32) (lg : Nat) (me : Int32) (M : Nat → Int32) (fu : Nat) (dd : Bool) (dn lf : Int32) : MCT :=
  match mTab (tbe k 3 k (stt (ety M) (1 - k))) M dd dn lf with
  | (M1, dd1, dn1, lf1) => match mBl (M1 (17 * k)) 32 (fu, dd1, dn1, lf1) with
    | (fu2, dd2, dn2, lf2) => match answ (nI 0) dd2 rn false lg me with
      | (r, dd3, rn3, tr3, lg3, me3) => (r, rn3, tr3, lg3, me3, M1, fu2, dd3, dn2, lf2)
def moCf (rn : Int32) (tr : Bool) (lg : Nat) (me : Int32) (M : Nat → Int32) (fu : Nat) (dd : Bool) (dn lf : Int32) : MCT :=
  if tr = true then moCfK rn.toNatClampNeg rn lg me M fu dd dn lf else (-2, rn, tr, lg, me, M, fu, dd, dn, lf)
abbrev MUT : Type := Int32 × Int32 × Bool × Nat × Int32 × MPT
def moUK (j : Nat) (rn : Int32) (tr : Bool) (lg : Nat) (me : Int32) (M : Nat → Int32) (dd : Bool) (dn lf : Int32) (k : Nat) : MUT :=
  if rn = -1 then (-2, rn, tr, lg, me, M, dd, dn, lf) else if tr = true then (-2, rn, tr, lg, me, M, dd, dn, lf) else
  match mTab (tbe k 0 (1 - k) (stt (ety M) (1 - k))) M dd dn lf with
  | (M1, dd1, dn1, lf1) => match mWp (40 + 17 * j) (17 * k) 17 0 (M1, dd1, dn1, lf1) with
    | (M2, dd2, dn2, lf2) => match mTab (tbe k 2 (hom (ety M2)) (stt (ety M2) (1 - k))) M2 dd2 dn2 lf2 with
      | (M3, dd3, dn3, lf3) => match answ (nI 0) dd3 rn tr lg me with
        | (r, dd4, rn4, tr4, lg4, me4) => (r, rn4, tr4, lg4, me4, M3, dd4, dn3, lf3)
def kept (rn : Int32) (M : Nat → Int32) : Nat := if rn = nI 2 then hom (ety M) else if rn = nI 1 then 1 else 0
def moUp (v : Int32) (cn : Nat) (rn : Int32) (tr : Bool) (lg : Nat) (me : Int32) (M : Nat → Int32) (dd : Bool) (dn lf : Int32) : MUT :=
  if isPk v cn = true then moUK v.toNatClampNeg rn tr lg me M dd dn lf (1 - kept rn M) else (-2, rn, tr, lg, me, M, dd, dn, lf)
theorem kept_0 (M : Nat → Int32) : kept (nI 0) M = 0 := rfl
theorem kept_1 (M : Nat → Int32) : kept (nI 1) M = 1 := rfl
theorem kept_2 (M : Nat → Int32) : kept (nI 2) M = hom (ety M) := rfl
abbrev MBT : Type := Int32 × Int32 × Bool × Nat × Int32 × (Nat → Int32) × (Nat → Int32) × Nat × Bool × Int32 × Int32
def mt1 (k : Nat) (M : Nat → Int32) (rt : Int32) (en : Nat → Int32) (lg : Nat) (me : Int32) (fu : Nat) : Bool × (Nat → Int32) × Nat × Int32 := if stt (ety M) k = 3 then att (fun i => M (17 * k + i)) fu rt en else (false, en, lg, me)
def mbw (k : Nat) (tr : Bool) (M en : Nat → Int32) (lg : Nat) (me : Int32) (fu : Nat) (dd : Bool) (dn lf : Int32) : MBT := match mBl (M (17 * k)) 32 (fu, dd, dn, lf) with
  | (fu2, dd2, dn2, lf2) => match answ (nI k) dd2 (nI k) tr lg me with
    | (r, dd3, rn3, tr3, lg3, me3) => (r, rn3, tr3, lg3, me3, en, M, fu2, dd3, dn2, lf2)
def moSc (rt : Int32) (lg : Nat) (me : Int32) (en M : Nat → Int32) (fu : Nat) (dd : Bool) (dn lf : Int32) : MBT :=
  match mt1 (hom (ety M)) M rt en lg me fu with
  | (true, en1, lg1, me1) => mbw (hom (ety M)) false M en1 lg1 me1 fu dd dn lf
  | (false, en1, lg1, me1) => match mt1 (1 - hom (ety M)) M rt en1 lg1 me1 fu with
    | (true, en2, lg2, me2) => mbw (1 - hom (ety M)) false M en2 lg2 me2 fu dd dn lf
    | (false, en2, _, _) => match answ (nI 2) dd (nI 2) false 0 (nI 0) with
      | (r, dd3, rn3, tr3, lg3, me3) => (r, rn3, tr3, lg3, me3, en2, M, fu, dd3, dn, lf)
def moBt (rt : Int32) (lg : Nat) (me : Int32) (en M : Nat → Int32) (fu : Nat) (dd : Bool) (dn lf : Int32) : MBT := match trlO (ety M) with
  | none => moSc rt lg me en M fu dd dn lf
  | some k => match mTab (tbe k 1 (hom (ety M)) (stt (ety M) (1 - k))) M dd dn lf with
    | (M1, dd1, dn1, lf1) => match att (fun i => M1 (17 * k + i)) fu rt en with
      | (true, en1, lg1, me1) => match answ (nI k) dd1 (nI k) true lg1 me1 with
        | (r, dd3, rn3, tr3, lg3, me3) => (r, rn3, tr3, lg3, me3, en1, M1, fu, dd3, dn1, lf1)
      | (false, en1, lg1, me1) => moSc rt lg1 me1 en1 M1 fu dd1 dn1 lf1
