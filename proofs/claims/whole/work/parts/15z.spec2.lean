/-! more of the pure picture -/
def upL (src : Nat → Int32) (rn : Int32) (tr : Bool) (ec : Nat) (me : Int32) (M : Nat → Int32) (dn lf : Int32) : UPT :=
  if rn = -1 then (-2, rn, tr, ec, me, M, dn, lf) else if tr = true then (-2, rn, tr, ec, me, M, dn, lf) else
  match rplC (1 - kept rn M) src M dn lf with
  | (true, M1, dn1, lf1) => (nI 0, rn, tr, ec, me, M1, dn1, lf1)
  | (false, M1, dn1, lf1) => (-1, -1, false, 0, nI 0, M1, dn1, lf1)
def upD (v : Int32) (cn : Nat) (pk : Nat → Int32) (rn : Int32) (tr : Bool) (ec : Nat) (me : Int32) (M : Nat → Int32) (dn lf : Int32) : UPT :=
  if isPk v cn = true then upL (fun i => pk (v.toNatClampNeg * 17 + i)) rn tr ec me M dn lf else (-2, rn, tr, ec, me, M, dn, lf)
