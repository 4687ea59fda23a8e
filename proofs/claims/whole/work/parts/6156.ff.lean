section Z2_FF
theorem sI_eq : ((cl_seal s13 0 11).1, (cl_seal s13 0 11).2.1, (cl_seal s13 0 11).2.2.1, (cl_seal s13 0 11).2.2.2.1, (cl_seal s13 0 11).2.2.2.2.1 + 80, (cl_seal s13 0 11).2.2.2.2.2.1 - 80, (cl_seal s13 0 11).2.2.2.2.2.2 - 2124222) = sI := by
  have e : s13.2.2.2.2.1 + 80 = 405 := by rw [n13]
  unfold sI cl_seal
  first
    | (rw [← e]; done)
    | (rw [← e]; rfl)
end Z2_FF
