/-! more of the pure picture -/
theorem moCf_0 (lg : Nat) (me : Int32) (M : Nat → Int32) (fu : Nat) (dd : Bool) (dn lf : Int32) : moCf (nI 0) true lg me M fu dd dn lf = moCfK 0 (nI 0) lg me M fu dd dn lf := by
  rw [moCf, if_pos rfl, nI_clamp (by decide)]
theorem moCf_1 (lg : Nat) (me : Int32) (M : Nat → Int32) (fu : Nat) (dd : Bool) (dn lf : Int32) : moCf (nI 1) true lg me M fu dd dn lf = moCfK 1 (nI 1) lg me M fu dd dn lf := by
  rw [moCf, if_pos rfl, nI_clamp (by decide)]
section CUT
variable {p : Program} {l : Launch} {e : Env} {R : Room} {s : State} {m : MethodId} {args : Array Value} {below : List Frame} {meth : Method} {c : Code} {H : Heap} {locs : List Loc} {cells slots : Nat} {Q : State → Prop}
/-- a place that many roads come to: what is behind it once -/
theorem wcut {ι : Type} {pc : Nat} {ls : Array Slot} {st0 : List Value} (pc2 : Nat) (I : ι → Array Slot → Heap → List Loc → Prop)
    (tail : ∀ (i : ι) (ls : Array Slot) (H : Heap) (locs : List Loc), I i ls H locs → W p l e R s m args below meth c H locs cells slots Q (F0 m pc2 ls []))
    (main : (∀ (i : ι) (ls : Array Slot) (H : Heap) (locs : List Loc), I i ls H locs → W p l e R s m args below meth c H locs cells slots Q (F0 m pc2 ls [])) → W p l e R s m args below meth c H locs cells slots Q (F0 m pc ls st0)) : W p l e R s m args below meth c H locs cells slots Q (F0 m pc ls st0) := main tail
end CUT
