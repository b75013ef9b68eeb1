/-! the law's own blocks, 1 -/
set_option maxRecDepth 100000 in
theorem pg_lw_1 : (((pg_bs 179).drop 32).take 32).all (fun q => pg_okL 179 q.1 q.2) = true := by decide +kernel
