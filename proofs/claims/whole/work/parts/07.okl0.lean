/-! the law's own blocks, 0 -/
set_option maxRecDepth 100000 in
theorem pg_lw_0 : (((pg_bs 179).drop 0).take 32).all (fun q => pg_okL 179 q.1 q.2) = true := by decide +kernel
