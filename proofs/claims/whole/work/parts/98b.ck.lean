theorem ax_ckg7 : ((List.range 23).all fun j => (List.range 270).all fun pc => ax_ck1 (146 + j) pc) = true := by decide +kernel
theorem ax_ckg8 : ((List.range 12).all fun j => (List.range 197).all fun pc => ax_ck1 (169 + j) pc) = true := by decide +kernel
theorem ax_ckg9 : ((List.range 19).all fun j => (List.range 196).all fun pc => ax_ck1 (181 + j) pc) = true := by decide +kernel
theorem ax_ckg10 : ((List.range 17).all fun j => (List.range 177).all fun pc => ax_ck1 (200 + j) pc) = true := by decide +kernel
theorem ax_ckg11 : ((List.range 12).all fun j => (List.range 197).all fun pc => ax_ck1 (217 + j) pc) = true := by decide +kernel
theorem ax_ckg12 : ((List.range 9).all fun j => (List.range 257).all fun pc => ax_ck1 (229 + j) pc) = true := by decide +kernel
theorem ax_ckg13 : ((List.range 9).all fun j => (List.range 282).all fun pc => ax_ck1 (238 + j) pc) = true := by decide +kernel
