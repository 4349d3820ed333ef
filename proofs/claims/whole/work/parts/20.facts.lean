/-! RowGrader.Facts: leaves -/
theorem c_pair {z : mm_S} {d : Nat} {a b : Int32} {I : mm_I} {J : mm_J} (Q : Option Value → mm_I → mm_J → Prop) : mm_call z (d + 1) 215 [.int a, .int b] I J Q = Q (some (.int (if a = b then -1 else if a < b then b * (b - 1) / 2 + a else a * (a - 1) / 2 + b))) I J := by
  refine mm_ev ?_ Q
  simp only [ce_215, bk_215, mmE, mmE0, mmH, Int.reduceToNat, Int32.reduceOfInt, Int32.reduceNeg]
  trace_state
  sorry
theorem c_pointsOf {z : mm_S} {d : Nat} {a : Int32} {I : mm_I} {J : mm_J} (Q : Option Value → mm_I → mm_J → Prop) : mm_call z (d + 1) 204 [.int a] I J Q = Q (some (.int (if a = 0 ∨ a = 4 ∨ a = 6 then 3 else 4))) I J := by
  refine mm_ev ?_ Q
  simp only [ce_204, bk_204, mmE, mmE0, mmH, Int.reduceToNat, Int32.reduceOfInt, Int32.reduceNeg]
  trace_state
  sorry
