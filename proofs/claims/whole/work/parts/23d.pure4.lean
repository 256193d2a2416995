theorem up_ec (v : Int32) (cn : Nat) (pk : Nat → Int32) (rn : Int32) (tr : Bool) (ec : Nat) (me : Int32) (M : Nat → Int32) (dn lf : Int32) : (upD v cn pk rn tr ec me M dn lf).2.2.2.1 ≤ ec := by
  unfold upD
  cases isPk v cn
  · exact Nat.le_refl _
  · rw [if_pos rfl]
    unfold upL
    by_cases h1 : rn = -1
    · rw [if_pos h1]; exact Nat.le_refl _
    · by_cases h2 : tr = true
      · rw [if_neg h1, if_pos h2]; exact Nat.le_refl _
      · rw [if_neg h1, if_neg h2]
        generalize rplC (1 - kept rn M) (fun i => pk (v.toNatClampNeg * 17 + i)) M dn lf = o
        obtain ⟨b, M1, d1, f1⟩ := o
        cases b
        · exact Nat.zero_le _
        · exact Nat.le_refl _
theorem cf_ec (rn : Int32) (tr : Bool) (ec : Nat) (me : Int32) (M : Nat → Int32) (bl : Nat) (dn lf : Int32) : (cfC rn tr ec me M bl dn lf).2.2.2.1 ≤ ec := by
  unfold cfC
  cases tr
  · exact Nat.le_refl _
  · rw [if_pos rfl]
    unfold cfK
    generalize rn.toNatClampNeg = k
    generalize pTab M dn lf (who (wst (ety M) k 3) k) = o
    obtain ⟨b, M1, d1, f1⟩ := o
    cases b
    · exact Nat.zero_le _
    · simp only []
      generalize pBlow (M1 (k * 17)) bl d1 f1 = z
      obtain ⟨b2, bl2, d2, f2⟩ := z
      cases b2
      · exact Nat.zero_le _
      · exact Nat.le_refl _
abbrev b_Lw_cell : ByteArray := method_2_code
def y_Lw_cell : MethodName := ⟨R_Lw, "cell", "([II)I"⟩
def w_Lw_cell : List Cond := .code y_Lw_cell b_Lw_cell 2 (some .int) :: gt
theorem d_Lw_cell_0 : decode b_Lw_cell 0 = .ok (.iload_n 1, 1) := by decide +kernel
theorem d_Lw_cell_1 : decode b_Lw_cell 1 = .ok (.aload_n 0, 1) := by decide +kernel
theorem d_Lw_cell_2 : decode b_Lw_cell 2 = .ok (.arraylength, 1) := by decide +kernel
theorem d_Lw_cell_3 : decode b_Lw_cell 3 = .ok (.if_icmp .ge (9), 3) := by decide +kernel
theorem d_Lw_cell_6 : decode b_Lw_cell 6 = .ok (.aload_n 0, 1) := by decide +kernel
theorem d_Lw_cell_7 : decode b_Lw_cell 7 = .ok (.iload_n 1, 1) := by decide +kernel
theorem d_Lw_cell_8 : decode b_Lw_cell 8 = .ok (.iaload, 1) := by decide +kernel
theorem d_Lw_cell_9 : decode b_Lw_cell 9 = .ok (.goto (4), 3) := by decide +kernel
theorem d_Lw_cell_12 : decode b_Lw_cell 12 = .ok (.iconst 0, 1) := by decide +kernel
theorem d_Lw_cell_13 : decode b_Lw_cell 13 = .ok (.ireturn, 1) := by decide +kernel
