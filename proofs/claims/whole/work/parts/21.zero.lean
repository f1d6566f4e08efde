/-- the numbers of a new pair of objects -/
def σ0 : St := st (st (st (fun _ _ => 0) 1 4 1) 14 4 1) 67 2 1
