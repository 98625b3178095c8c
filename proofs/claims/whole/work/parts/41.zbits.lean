/-! ===== bits of numbers below 4096 ===== -/
theorem bit12 : (List.range 4096).all (fun x => (List.range 13).all (fun j => decide (((nI x >>> (nI j &&& 31)) &&& 1) = bI (x.testBit j)))) = true := by decide +kernel
theorem bitb {x j : Nat} (hx : x < 4096) (hj : j < 13) : ((nI x >>> (nI j &&& 31)) &&& 1) = bI (x.testBit j) :=
  of_decide_eq_true (List.all_eq_true.mp (List.all_eq_true.mp bit12 x (List.mem_range.mpr hx)) j (List.mem_range.mpr hj))
