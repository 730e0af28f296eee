/-! ===== each class, each method ===== -/
set_option maxRecDepth 100000 in
theorem kE0 : lt0.all (ckE oN0) = true := by decide +kernel
set_option maxRecDepth 100000 in
theorem kL0 : lt0.all (ckL oN0) = true := by decide +kernel
set_option maxRecDepth 100000 in
theorem kE1 : lt1.all (ckE oN1) = true := by decide +kernel
set_option maxRecDepth 100000 in
theorem kL1 : lt1.all (ckL oN1) = true := by decide +kernel
set_option maxRecDepth 100000 in
theorem kE2 : lt2.all (ckE oN2) = true := by decide +kernel
set_option maxRecDepth 100000 in
theorem kL2 : lt2.all (ckL oN2) = true := by decide +kernel
set_option maxRecDepth 100000 in
theorem kE3 : lt3.all (ckE oN3) = true := by decide +kernel
set_option maxRecDepth 100000 in
theorem kL3 : lt3.all (ckL oN3) = true := by decide +kernel
set_option maxRecDepth 100000 in
theorem kE4 : lt4.all (ckE oN4) = true := by decide +kernel
set_option maxRecDepth 100000 in
theorem kL4 : lt4.all (ckL oN4) = true := by decide +kernel
set_option maxRecDepth 100000 in
theorem kE5 : lt5.all (ckE oN5) = true := by decide +kernel
set_option maxRecDepth 100000 in
theorem kL5 : lt5.all (ckL oN5) = true := by decide +kernel
set_option maxRecDepth 100000 in
theorem kE6 : lt6.all (ckE oN6) = true := by decide +kernel
set_option maxRecDepth 100000 in
theorem kL6 : lt6.all (ckL oN6) = true := by decide +kernel
set_option maxRecDepth 100000 in
theorem kE7 : lt7.all (ckE oN7) = true := by decide +kernel
set_option maxRecDepth 100000 in
theorem kL7 : lt7.all (ckL oN7) = true := by decide +kernel
set_option maxRecDepth 100000 in
theorem kE8 : lt8.all (ckE oN8) = true := by decide +kernel
set_option maxRecDepth 100000 in
theorem kL8 : lt8.all (ckL oN8) = true := by decide +kernel
set_option maxRecDepth 100000 in
theorem kE9 : lt9.all (ckE oN9) = true := by decide +kernel
set_option maxRecDepth 100000 in
theorem kL9 : lt9.all (ckL oN9) = true := by decide +kernel
set_option maxRecDepth 100000 in
theorem kE10 : lt10.all (ckE oN10) = true := by decide +kernel
set_option maxRecDepth 100000 in
theorem kL10 : lt10.all (ckL oN10) = true := by decide +kernel
set_option maxRecDepth 100000 in
theorem kE11 : lt11.all (ckE oN11) = true := by decide +kernel
set_option maxRecDepth 100000 in
theorem kL11 : lt11.all (ckL oN11) = true := by decide +kernel
set_option maxRecDepth 100000 in
theorem kE12 : lt12.all (ckE oN12) = true := by decide +kernel
set_option maxRecDepth 100000 in
theorem kL12 : lt12.all (ckL oN12) = true := by decide +kernel
set_option maxRecDepth 100000 in
theorem kE13 : lt13.all (ckE oN13) = true := by decide +kernel
set_option maxRecDepth 100000 in
theorem kL13 : lt13.all (ckL oN13) = true := by decide +kernel
set_option maxRecDepth 100000 in
theorem kE14 : lt14.all (ckE oN14) = true := by decide +kernel
set_option maxRecDepth 100000 in
theorem kL14 : lt14.all (ckL oN14) = true := by decide +kernel
set_option maxRecDepth 100000 in
theorem kE15 : lt15.all (ckE oN15) = true := by decide +kernel
set_option maxRecDepth 100000 in
theorem kL15 : lt15.all (ckL oN15) = true := by decide +kernel
set_option maxRecDepth 100000 in
theorem kE16 : lt16.all (ckE oN16) = true := by decide +kernel
set_option maxRecDepth 100000 in
theorem kL16 : lt16.all (ckL oN16) = true := by decide +kernel
set_option maxRecDepth 100000 in
theorem kE17 : lt17.all (ckE oN17) = true := by decide +kernel
set_option maxRecDepth 100000 in
theorem kL17 : lt17.all (ckL oN17) = true := by decide +kernel
set_option maxRecDepth 100000 in
theorem kE18 : lt18.all (ckE oN18) = true := by decide +kernel
set_option maxRecDepth 100000 in
theorem kL18 : lt18.all (ckL oN18) = true := by decide +kernel
