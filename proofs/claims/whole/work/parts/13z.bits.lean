/-! bits: the family bt of the kit (pasted), and own rows on the entry of a record -/
def bt (x : Int32) (i : Nat) : Bool := x.toBitVec.getLsbD i
theorem b_ext {x y : Int32} (h : ∀ i, i < 32 → bt x i = bt y i) : x = y := Int32.toBitVec_inj.mp (BitVec.eq_of_getLsbD_eq (fun i hi => h i hi))
theorem b_or (x y : Int32) (i : Nat) : bt (x ||| y) i = (bt x i || bt y i) := by unfold bt; rw [Int32.toBitVec_or, BitVec.getLsbD_or]
theorem b_and (x y : Int32) (i : Nat) : bt (x &&& y) i = (bt x i && bt y i) := by unfold bt; rw [Int32.toBitVec_and, BitVec.getLsbD_and]
theorem b_xor (x y : Int32) (i : Nat) : bt (x ^^^ y) i = (bt x i ^^ bt y i) := by unfold bt; rw [Int32.toBitVec_xor, BitVec.getLsbD_xor]
theorem b_big {x : Int32} {i : Nat} (h : 32 ≤ i) : bt x i = false := BitVec.getLsbD_of_ge _ _ h
theorem b_255 (i : Nat) : bt 255 i = decide (i < 8) := by
  rcases Nat.lt_or_ge i 32 with h | h
  · exact (by decide +kernel : ∀ i, i < 32 → bt 255 i = decide (i < 8)) i h
  · rw [b_big h, decide_eq_false (by omega)]
theorem b_65535 (i : Nat) : bt 65535 i = decide (i < 16) := by
  rcases Nat.lt_or_ge i 32 with h | h
  · exact (by decide +kernel : ∀ i, i < 32 → bt 65535 i = decide (i < 16)) i h
  · rw [b_big h, decide_eq_false (by omega)]
theorem b_m1 : ∀ i, i < 32 → bt (-1) i = true := by decide +kernel
theorem b_0 (i : Nat) : bt 0 i = false := BitVec.getLsbD_zero
theorem s_l : ∀ n, n < 32 → ((nI n &&& 31).toBitVec.smod 32).toNat = n := by decide +kernel
theorem s_u : ∀ n, n < 32 → (((nI n).toUInt32 &&& Int32.toUInt32 31).toBitVec % 32).toNat = n := by decide +kernel
theorem b_shl (n : Nat) (hn : n < 32) (x : Int32) {i : Nat} (hi : i < 32) : bt (x <<< (nI n &&& 31)) i = (decide (n ≤ i) && bt x (i - n)) := by
  unfold bt
  rw [Int32.toBitVec_shiftLeft]
  show (x.toBitVec <<< ((nI n &&& 31).toBitVec.smod 32).toNat).getLsbD i = _
  rw [s_l n hn, BitVec.getLsbD_shiftLeft]
  rcases Nat.lt_or_ge i n with h | h
  · simp [h, Nat.not_le.mpr h]
  · simp [hi, h, Nat.not_lt.mpr h]
theorem b_ushr (n : Nat) (hn : n < 32) (x : Int32) (i : Nat) : bt ((x.toUInt32 >>> ((nI n).toUInt32 &&& Int32.toUInt32 31)).toInt32) i = bt x (n + i) := by
  show (x.toUInt32 >>> ((nI n).toUInt32 &&& Int32.toUInt32 31)).toBitVec.getLsbD i = x.toUInt32.toBitVec.getLsbD (n + i)
  rw [UInt32.toBitVec_shiftRight]
  show (x.toUInt32.toBitVec >>> (((nI n).toUInt32 &&& Int32.toUInt32 31).toBitVec % 32).toNat).getLsbD i = _
  rw [s_u n hn, BitVec.getLsbD_ushiftRight]
theorem b_sshr (n : Nat) (hn : n < 32) (x : Int32) {i : Nat} (hi : i < 32) : bt (x >>> (nI n &&& 31)) i = if n + i < 32 then bt x (n + i) else bt x 31 := by
  unfold bt
  rw [Int32.toBitVec_shiftRight]
  show (x.toBitVec.sshiftRight ((nI n &&& 31).toBitVec.smod 32).toNat).getLsbD i = _
  rw [s_l n hn, BitVec.getLsbD_sshiftRight, BitVec.msb_eq_getLsbD_last]
  simp [hi]
theorem b_3 : ∀ i, i < 32 → bt (nI 3) i = decide (i < 2) := by decide +kernel
theorem b_31 : ∀ i, i < 32 → bt (nI 31) i = decide (i < 5) := by decide +kernel
theorem sshr_a (x : Int32) (n : Nat) (hn : n < 30) : (x >>> (nI n &&& 31)) &&& nI 3 = ush x (nI n) &&& nI 3 := by
  apply b_ext
  intro i hi
  rw [b_and, b_and, b_3 i hi, b_sshr n (by omega) x hi, show bt (ush x (nI n)) i = bt x (n + i) from b_ushr n (by omega) x i]
  by_cases h : i < 2
  · rw [if_pos (by omega)]
  · rw [decide_eq_false h, Bool.and_false, Bool.and_false]
theorem sshr_0 (x : Int32) : (x >>> (nI 1 &&& 31)) &&& nI 3 = nI (stt x 0) := (sshr_a x 1 (by decide)).trans (pk_and _ 2 (by decide))
theorem sshr_1 (x : Int32) : (x >>> (nI 3 &&& 31)) &&& nI 3 = nI (stt x 1) := (sshr_a x 3 (by decide)).trans (pk_and _ 2 (by decide))
theorem stt_31 (e : Int32) {k : Nat} (hk : k < 2) : stt e k = stt (e &&& nI 31) k := by
  have h1 : ush e (nI (1 + 2 * k)) &&& nI 3 = ush (e &&& nI 31) (nI (1 + 2 * k)) &&& nI 3 := by
    apply b_ext
    intro i hi
    rw [b_and, b_and, b_3 i hi, show bt (ush e (nI (1 + 2 * k))) i = bt e (1 + 2 * k + i) from b_ushr _ (by omega) e i, show bt (ush (e &&& nI 31) (nI (1 + 2 * k))) i = bt (e &&& nI 31) (1 + 2 * k + i) from b_ushr _ (by omega) _ i, b_and]
    by_cases h : i < 2
    · rw [b_31 _ (by omega), decide_eq_true (p := 1 + 2 * k + i < 5) (by omega), Bool.and_true]
    · rw [decide_eq_false h, Bool.and_false, Bool.and_false]
  have h2 : nI (stt e k) = nI (stt (e &&& nI 31) k) := (pk_and _ 2 (by decide)).symm.trans (h1.trans (pk_and _ 2 (by decide)))
  have h3 := stt_lt e k
  have h4 := stt_lt (e &&& nI 31) k
  exact (nI_eq (by omega) (by omega)).mp h2
theorem hom_31 (e : Int32) : hom e = hom (e &&& nI 31) := by
  have h1 : e &&& nI 1 = (e &&& nI 31) &&& nI 1 := by
    apply b_ext
    intro i hi
    rw [b_and, b_and, b_and, b_31 i hi]
    by_cases h : i < 5
    · rw [decide_eq_true h, Bool.and_true]
    · rw [show bt (nI 1) i = false from (by decide +kernel : ∀ i, i < 32 → ¬ i < 5 → bt (nI 1) i = false) i hi h, Bool.and_false, Bool.and_false]
  have h2 : nI (hom e) = nI (hom (e &&& nI 31)) := (pk_and _ 1 (by decide)).symm.trans (h1.trans (pk_and _ 1 (by decide)))
  have h3 := hom_lt e
  have h4 := hom_lt (e &&& nI 31)
  exact (nI_eq (by omega) (by omega)).mp h2
theorem red_a (e a b m c t : Int32) : (((e &&& a ||| b) &&& m) ||| c) &&& t = ((((e &&& t) &&& a ||| b) &&& m) ||| c) &&& t := by
  apply b_ext
  intro i hi
  simp only [b_and, b_or]
  cases bt e i <;> cases bt a i <;> cases bt b i <;> cases bt m i <;> cases bt c i <;> cases bt t i <;> rfl
theorem red_b (e a b t : Int32) : (e &&& a ||| b) &&& t = ((e &&& t) &&& a ||| b) &&& t := by
  apply b_ext
  intro i hi
  simp only [b_and, b_or]
  cases bt e i <;> cases bt a i <;> cases bt b i <;> cases bt t i <;> rfl
theorem ent_all : ∀ j, j < 32 → ∀ k, k < 2 → ∀ v, v < 4 → ∀ g, g < 2 → who (wst (nI j) k v) g &&& nI 31 = nI (tbe k v g (stt (nI j) (1 - k))) := by decide +kernel
theorem enu_all : ∀ j, j < 32 → ∀ k, k < 2 → ∀ v, v < 4 → wst (nI j) k v &&& nI 31 = nI (tbe k v (hom (nI j)) (stt (nI j) (1 - k))) := by decide +kernel
/-- the entry that the class writes is the reference's, with the home given .. -/
theorem ent_A (e : Int32) {k v g : Nat} (hk : k < 2) (hv : v < 4) (hg : g < 2) : who (wst e k v) g &&& nI 31 = nI (tbe k v g (stt e (1 - k))) := by
  have h1 : who (wst e k v) g &&& nI 31 = who (wst (e &&& nI 31) k v) g &&& nI 31 := red_a _ _ _ _ _ _
  obtain ⟨j, hj, ej⟩ := pk_andE e (m := nI 31) 5 (by decide)
  rw [h1, stt_31 e (by omega : 1 - k < 2), ej]
  exact ent_all j hj k hk v hv g hg
/-- .. and with the home kept -/
theorem ent_B (e : Int32) {k v : Nat} (hk : k < 2) (hv : v < 4) : wst e k v &&& nI 31 = nI (tbe k v (hom e) (stt e (1 - k))) := by
  have h1 : wst e k v &&& nI 31 = wst (e &&& nI 31) k v &&& nI 31 := red_b _ _ _ _
  obtain ⟨j, hj, ej⟩ := pk_andE e (m := nI 31) 5 (by decide)
  rw [h1, stt_31 e (by omega : 1 - k < 2), hom_31 e, ej]
  exact enu_all j hj k hk v hv
