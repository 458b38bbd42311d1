/-! ===== the constant table; the law's frame ===== -/
def actL : List Int32 := [0, 1, 1, 0, 0, 0, 0, 1, 0, 1, -1, 0, 0, 0, 0, 1, 1, 0, 0, 0, 0, 0, 0, 1, 0, 1, 0, 0, 0, 0, 1, 0, 0, 0, 0, 1, 0, 1, 0, 0]
def actF (j : Nat) : Int32 := actL.getD j 0
def GT (G : GG) : Prop := ∃ t : Nat, va_Z "RatioStreams" "ACT_FACTORS" "[I" (.ref t) (aF G) G.2.1 G.2.1.heap ∧ va_T .int t 40 (fun j => .int (actF j)) (aF G) G.2.1 G.2.1.heap
