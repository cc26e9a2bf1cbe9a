theorem ax_ckg0 : ((List.range 26).all fun j => (List.range 96).all fun pc => ax_ck1 (0 + j) pc) = true := by decide +kernel
theorem ax_ckg1 : ((List.range 17).all fun j => (List.range 165).all fun pc => ax_ck1 (26 + j) pc) = true := by decide +kernel
theorem ax_ckg2 : ((List.range 21).all fun j => (List.range 155).all fun pc => ax_ck1 (43 + j) pc) = true := by decide +kernel
theorem ax_ckg3 : ((List.range 25).all fun j => (List.range 107).all fun pc => ax_ck1 (64 + j) pc) = true := by decide +kernel
theorem ax_ckg4 : ((List.range 16).all fun j => (List.range 226).all fun pc => ax_ck1 (89 + j) pc) = true := by decide +kernel
theorem ax_ckg5 : ((List.range 18).all fun j => (List.range 141).all fun pc => ax_ck1 (105 + j) pc) = true := by decide +kernel
theorem ax_ckg6 : ((List.range 23).all fun j => (List.range 149).all fun pc => ax_ck1 (123 + j) pc) = true := by decide +kernel
