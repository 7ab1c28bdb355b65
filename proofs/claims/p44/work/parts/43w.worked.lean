-- ===== worked: its steps, by the kernel
theorem wkc00 : (List.range 60).all (fun k_ => wkc 0 k_ 0) = true := by decide +kernel
theorem wkc01a : (List.range 30).all (fun k_ => wkc 0 k_ 1) = true := by decide +kernel
theorem wkc01b : (List.range 30).all (fun k_ => wkc 0 (30 + k_) 1) = true := by decide +kernel
theorem wkc02 : (List.range 60).all (fun k_ => wkc 0 k_ 2) = true := by decide +kernel
theorem wkc03 : (List.range 60).all (fun k_ => wkc 0 k_ 3) = true := by decide +kernel
theorem wkc10 : (List.range 60).all (fun k_ => wkc 1 k_ 0) = true := by decide +kernel
theorem wkc11a : (List.range 30).all (fun k_ => wkc 1 k_ 1) = true := by decide +kernel
theorem wkc11b : (List.range 30).all (fun k_ => wkc 1 (30 + k_) 1) = true := by decide +kernel
theorem wkc12 : (List.range 60).all (fun k_ => wkc 1 k_ 2) = true := by decide +kernel
theorem wkc13 : (List.range 60).all (fun k_ => wkc 1 k_ 3) = true := by decide +kernel
theorem wke_all : (List.range 61).all (fun k_ => wke 0 k_ && wke 1 k_) = true := by decide +kernel
theorem wka_all : (wka 0 && wka 1) = true := by decide +kernel
