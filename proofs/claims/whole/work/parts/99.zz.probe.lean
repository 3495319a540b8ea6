theorem zz1 : True := @Stand.ctorThrowS
theorem zz2 : True := @Stand.ctorThrowOnSVX
theorem zz3 : True := @Stand.throwMadeVX
theorem zz4 (a : String) (b : Nat) (c : String) (d : List String) : Bundle.ownAtoms a b c d = [] := by unfold Bundle.ownAtoms; exact 1
theorem zz5 : True := @Bundle.ownAtomsX
theorem zz6 (c : String) (d : List String) : Bundle.chainSAtoms c d = [] := by unfold Bundle.chainSAtoms; exact 1
theorem zz7 : True := @Bundle.chainSAtomsX
theorem zz8 : True := @Bundle.chainSX
theorem zz9 : True := @Bundle.chainS
theorem zz10 : True := @Bundle.ctorIdx
theorem zz11 (s t : State) (L : List Loc) (a b : Nat) : s.sameButNew t L a b := by unfold State.sameButNew; exact 1
theorem zz12 (s t : State) (o : Outcome) (L : List Loc) (a b : Nat) : Framed s o t L a b := by unfold Framed; exact 1
