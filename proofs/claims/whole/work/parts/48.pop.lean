theorem pc_all : allB (fun h => allB (fun l => pcX (256 * h + l)) 256) 256 = true := by decide +kernel
