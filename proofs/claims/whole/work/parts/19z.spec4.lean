/-! what the constructors lay -/
theorem arr_one {D : va_G} {cl : List vw_C} {cI cA : ClassId} {s : State} (h : va_K D cl ([(cI, .int)] ++ [(cA, .int)]) s) : cA = cI := by
  have h0 : s.vm.findClass ("[" ++ FieldType.int.toString) = some cI := (h.2 0 (cI, .int) rfl).2
  have h1 : s.vm.findClass ("[" ++ FieldType.int.toString) = some cA := (h.2 1 (cA, .int) rfl).2
  exact Option.some.inj (h1.symm.trans h0)
def mL (sc : Int32) : Nat → Int32 := upd (upd (upd (upd (upd (upd (upd (upd (fun _ => 0) 8 (mkLeaf sc 0)) 9 (mkLeaf sc 1)) 10 (mkLeaf sc 2)) 11 (mkLeaf sc 3)) 12 (mkLeaf sc 4)) 13 (mkLeaf sc 5)) 14 (mkLeaf sc 6)) 15 (mkLeaf sc 7)
def mkN (sc : Int32) : Nat → Int32 := tU (mL sc)
def stI (f : Nat → Int32) : Nat → Int32 := upd (upd (upd (va_cpy f (fun _ => 0) 0 0 17) 34 (nI 1)) 35 (nI 6)) 36 (ck (nI 1) (nI 6))
def moI (sc im : Int32) : Nat → Int32 := upd (upd (upd (sealM sc 0 0 (upd (upd (upd (upd (upd (fun _ => 0) 0 (nI 1)) (0 + 4) (nI 0)) (0 + 14) im) 15 (im + nI 1)) 16 (im + nI 2))) 34 (nI 1)) 35 (nI 6)) 36 (ck (nI 1) (nI 6))
