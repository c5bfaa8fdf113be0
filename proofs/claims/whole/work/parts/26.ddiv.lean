/-! ===== a total by a number that isn't 0 is no NaN: for the functional programs ===== -/
theorem ddiv_ok (t : Int64) {n : Int32} (hn : n ≠ 0) : ddivOK (FP.l2d t) (FP.i2d n) = true := by
  unfold ddivOK
  exact decide_eq_true (ddiv_nn t hn)
