/-! MAKING CELLS -/
theorem lx_mul {p : Program} {l : Launch} {e : Env} {R : Room} {s : State} {m : MethodId} {args : Array Value} {below : List Frame} {meth : Method} {c : Code} {T : State} {locs : List Loc} {cells slots : Nat} (X : Stand p l e R s m args below meth c T locs cells slots) : True := by
  have := @Stand.multianewarray2F
  have := @Jvm.Free.Multi.fill_old
  trivial
