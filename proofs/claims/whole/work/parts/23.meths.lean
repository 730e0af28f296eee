/-! ===== each method ===== -/
set_option maxRecDepth 100000 in
theorem kM0 : ckM 0 mI0 [0, 103] = true := by decide +kernel
theorem gM0 (xs : List Int32) (fv : Value) : mOk (gP xs fv) gTs gXt 0 mI0 := ckM_ok kM0 dk0 rfl (fun _ => rfl) rfl rfl kE0 kL0
set_option maxRecDepth 100000 in
theorem kM1 : ckM 1 mI1 [199, 108] = true := by decide +kernel
theorem gM1 (xs : List Int32) (fv : Value) : mOk (gP xs fv) gTs gXt 1 mI1 := ckM_ok kM1 dk1 rfl (fun _ => rfl) rfl rfl kE1 kL1
set_option maxRecDepth 100000 in
theorem kM2 : ckM 2 mI2 [943, 108] = true := by decide +kernel
theorem gM2 (xs : List Int32) (fv : Value) : mOk (gP xs fv) gTs gXt 2 mI2 := ckM_ok kM2 dk2 rfl (fun _ => rfl) rfl rfl kE1 kL1
set_option maxRecDepth 100000 in
theorem kM3 : ckM 3 mI3 [706, 108] = true := by decide +kernel
theorem gM3 (xs : List Int32) (fv : Value) : mOk (gP xs fv) gTs gXt 3 mI3 := ckM_ok kM3 dk3 rfl (fun _ => rfl) rfl rfl kE1 kL1
set_option maxRecDepth 100000 in
theorem kM4 : ckM 4 mI4 [783, 108] = true := by decide +kernel
theorem gM4 (xs : List Int32) (fv : Value) : mOk (gP xs fv) gTs gXt 4 mI4 := ckM_ok kM4 dk4 rfl (fun _ => rfl) rfl rfl kE1 kL1
set_option maxRecDepth 100000 in
theorem kM5 : ckM 5 mI5 [1156, 108] = true := by decide +kernel
theorem gM5 (xs : List Int32) (fv : Value) : mOk (gP xs fv) gTs gXt 5 mI5 := ckM_ok kM5 dk5 rfl (fun _ => rfl) rfl rfl kE1 kL1
set_option maxRecDepth 100000 in
theorem kM6 : ckM 6 mI6 [710, 108] = true := by decide +kernel
theorem gM6 (xs : List Int32) (fv : Value) : mOk (gP xs fv) gTs gXt 6 mI6 := ckM_ok kM6 dk6 rfl (fun _ => rfl) rfl rfl kE1 kL1
set_option maxRecDepth 100000 in
theorem kM7 : ckM 7 mI7 [534, 108] = true := by decide +kernel
theorem gM7 (xs : List Int32) (fv : Value) : mOk (gP xs fv) gTs gXt 7 mI7 := ckM_ok kM7 dk7 rfl (fun _ => rfl) rfl rfl kE1 kL1
set_option maxRecDepth 100000 in
theorem kM8 : ckM 8 mI8 [689, 108] = true := by decide +kernel
theorem gM8 (xs : List Int32) (fv : Value) : mOk (gP xs fv) gTs gXt 8 mI8 := ckM_ok kM8 dk8 rfl (fun _ => rfl) rfl rfl kE1 kL1
set_option maxRecDepth 100000 in
theorem kM9 : ckM 9 mI9 [698, 108] = true := by decide +kernel
theorem gM9 (xs : List Int32) (fv : Value) : mOk (gP xs fv) gTs gXt 9 mI9 := ckM_ok kM9 dk9 rfl (fun _ => rfl) rfl rfl kE1 kL1
set_option maxRecDepth 100000 in
theorem kM10 : ckM 10 mI10 [694, 108] = true := by decide +kernel
theorem gM10 (xs : List Int32) (fv : Value) : mOk (gP xs fv) gTs gXt 10 mI10 := ckM_ok kM10 dk10 rfl (fun _ => rfl) rfl rfl kE1 kL1
set_option maxRecDepth 100000 in
theorem kM11 : ckM 11 mI11 [702, 108] = true := by decide +kernel
theorem gM11 (xs : List Int32) (fv : Value) : mOk (gP xs fv) gTs gXt 11 mI11 := ckM_ok kM11 dk11 rfl (fun _ => rfl) rfl rfl kE1 kL1
set_option maxRecDepth 100000 in
theorem kM12 : ckM 12 mI12 [158, 106] = true := by decide +kernel
theorem gM12 (xs : List Int32) (fv : Value) : mOk (gP xs fv) gTs gXt 12 mI12 := ckM_ok kM12 dk12 rfl (fun _ => rfl) rfl rfl kE2 kL2
set_option maxRecDepth 100000 in
theorem kM13 : ckM 13 mI13 [530, 106] = true := by decide +kernel
theorem gM13 (xs : List Int32) (fv : Value) : mOk (gP xs fv) gTs gXt 13 mI13 := ckM_ok kM13 dk13 rfl (fun _ => rfl) rfl rfl kE2 kL2
set_option maxRecDepth 100000 in
theorem kM14 : ckM 14 mI14 [546, 106] = true := by decide +kernel
theorem gM14 (xs : List Int32) (fv : Value) : mOk (gP xs fv) gTs gXt 14 mI14 := ckM_ok kM14 dk14 rfl (fun _ => rfl) rfl rfl kE2 kL2
set_option maxRecDepth 100000 in
theorem kM15 : ckM 15 mI15 [649, 106] = true := by decide +kernel
theorem gM15 (xs : List Int32) (fv : Value) : mOk (gP xs fv) gTs gXt 15 mI15 := ckM_ok kM15 dk15 rfl (fun _ => rfl) rfl rfl kE2 kL2
set_option maxRecDepth 100000 in
theorem kM16 : ckM 16 mI16 [652, 106] = true := by decide +kernel
theorem gM16 (xs : List Int32) (fv : Value) : mOk (gP xs fv) gTs gXt 16 mI16 := ckM_ok kM16 dk16 rfl (fun _ => rfl) rfl rfl kE2 kL2
set_option maxRecDepth 100000 in
theorem kM17 : ckM 17 mI17 [677, 106] = true := by decide +kernel
theorem gM17 (xs : List Int32) (fv : Value) : mOk (gP xs fv) gTs gXt 17 mI17 := ckM_ok kM17 dk17 rfl (fun _ => rfl) rfl rfl kE2 kL2
set_option maxRecDepth 100000 in
theorem kM18 : ckM 18 mI18 [377, 113] = true := by decide +kernel
theorem gM18 (xs : List Int32) (fv : Value) : mOk (gP xs fv) gTs gXt 18 mI18 := ckM_ok kM18 dk18 rfl (fun _ => rfl) rfl rfl kE3 kL3
set_option maxRecDepth 100000 in
theorem kM19 : ckM 19 mI19 [1134, 113] = true := by decide +kernel
theorem gM19 (xs : List Int32) (fv : Value) : mOk (gP xs fv) gTs gXt 19 mI19 := ckM_ok kM19 dk19 rfl (fun _ => rfl) rfl rfl kE3 kL3
set_option maxRecDepth 100000 in
theorem kM20 : ckM 20 mI20 [1142, 113] = true := by decide +kernel
theorem gM20 (xs : List Int32) (fv : Value) : mOk (gP xs fv) gTs gXt 20 mI20 := ckM_ok kM20 dk20 rfl (fun _ => rfl) rfl rfl kE3 kL3
set_option maxRecDepth 100000 in
theorem kM21 : ckM 21 mI21 [1138, 113] = true := by decide +kernel
theorem gM21 (xs : List Int32) (fv : Value) : mOk (gP xs fv) gTs gXt 21 mI21 := ckM_ok kM21 dk21 rfl (fun _ => rfl) rfl rfl kE3 kL3
set_option maxRecDepth 100000 in
theorem kM22 : ckM 22 mI22 [338, 111] = true := by decide +kernel
theorem gM22 (xs : List Int32) (fv : Value) : mOk (gP xs fv) gTs gXt 22 mI22 := ckM_ok kM22 dk22 rfl (fun _ => rfl) rfl rfl kE4 kL4
set_option maxRecDepth 100000 in
theorem kM23 : ckM 23 mI23 [794, 111] = true := by decide +kernel
theorem gM23 (xs : List Int32) (fv : Value) : mOk (gP xs fv) gTs gXt 23 mI23 := ckM_ok kM23 dk23 rfl (fun _ => rfl) rfl rfl kE4 kL4
set_option maxRecDepth 100000 in
theorem kM24 : ckM 24 mI24 [966, 111] = true := by decide +kernel
theorem gM24 (xs : List Int32) (fv : Value) : mOk (gP xs fv) gTs gXt 24 mI24 := ckM_ok kM24 dk24 rfl (fun _ => rfl) rfl rfl kE4 kL4
set_option maxRecDepth 100000 in
theorem kM25 : ckM 25 mI25 [1009, 111] = true := by decide +kernel
theorem gM25 (xs : List Int32) (fv : Value) : mOk (gP xs fv) gTs gXt 25 mI25 := ckM_ok kM25 dk25 rfl (fun _ => rfl) rfl rfl kE4 kL4
set_option maxRecDepth 100000 in
theorem kM26 : ckM 26 mI26 [1013, 111] = true := by decide +kernel
theorem gM26 (xs : List Int32) (fv : Value) : mOk (gP xs fv) gTs gXt 26 mI26 := ckM_ok kM26 dk26 rfl (fun _ => rfl) rfl rfl kE4 kL4
set_option maxRecDepth 100000 in
theorem kM27 : ckM 27 mI27 [1016, 111] = true := by decide +kernel
theorem gM27 (xs : List Int32) (fv : Value) : mOk (gP xs fv) gTs gXt 27 mI27 := ckM_ok kM27 dk27 rfl (fun _ => rfl) rfl rfl kE4 kL4
set_option maxRecDepth 100000 in
theorem kM28 : ckM 28 mI28 [1019, 111] = true := by decide +kernel
theorem gM28 (xs : List Int32) (fv : Value) : mOk (gP xs fv) gTs gXt 28 mI28 := ckM_ok kM28 dk28 rfl (fun _ => rfl) rfl rfl kE4 kL4
set_option maxRecDepth 100000 in
theorem kM29 : ckM 29 mI29 [1022, 111] = true := by decide +kernel
theorem gM29 (xs : List Int32) (fv : Value) : mOk (gP xs fv) gTs gXt 29 mI29 := ckM_ok kM29 dk29 rfl (fun _ => rfl) rfl rfl kE4 kL4
set_option maxRecDepth 100000 in
theorem kM30 : ckM 30 mI30 [910, 111] = true := by decide +kernel
theorem gM30 (xs : List Int32) (fv : Value) : mOk (gP xs fv) gTs gXt 30 mI30 := ckM_ok kM30 dk30 rfl (fun _ => rfl) rfl rfl kE4 kL4
set_option maxRecDepth 100000 in
theorem kM31 : ckM 31 mI31 [1001, 111] = true := by decide +kernel
theorem gM31 (xs : List Int32) (fv : Value) : mOk (gP xs fv) gTs gXt 31 mI31 := ckM_ok kM31 dk31 rfl (fun _ => rfl) rfl rfl kE4 kL4
set_option maxRecDepth 100000 in
theorem kM32 : ckM 32 mI32 [1285, 111] = true := by decide +kernel
theorem gM32 (xs : List Int32) (fv : Value) : mOk (gP xs fv) gTs gXt 32 mI32 := ckM_ok kM32 dk32 rfl (fun _ => rfl) rfl rfl kE4 kL4
set_option maxRecDepth 100000 in
theorem kM33 : ckM 33 mI33 [1295, 111] = true := by decide +kernel
theorem gM33 (xs : List Int32) (fv : Value) : mOk (gP xs fv) gTs gXt 33 mI33 := ckM_ok kM33 dk33 rfl (fun _ => rfl) rfl rfl kE4 kL4
set_option maxRecDepth 100000 in
theorem kM34 : ckM 34 mI34 [819, 124] = true := by decide +kernel
theorem gM34 (xs : List Int32) (fv : Value) : mOk (gP xs fv) gTs gXt 34 mI34 := ckM_ok kM34 dk34 rfl (fun _ => rfl) rfl rfl kE5 kL5
set_option maxRecDepth 100000 in
theorem kM35 : ckM 35 mI35 [887, 124] = true := by decide +kernel
theorem gM35 (xs : List Int32) (fv : Value) : mOk (gP xs fv) gTs gXt 35 mI35 := ckM_ok kM35 dk35 rfl (fun _ => rfl) rfl rfl kE5 kL5
set_option maxRecDepth 100000 in
theorem kM36 : ckM 36 mI36 [890, 124] = true := by decide +kernel
theorem gM36 (xs : List Int32) (fv : Value) : mOk (gP xs fv) gTs gXt 36 mI36 := ckM_ok kM36 dk36 rfl (fun _ => rfl) rfl rfl kE5 kL5
set_option maxRecDepth 100000 in
theorem kM37 : ckM 37 mI37 [178, 107] = true := by decide +kernel
theorem gM37 (xs : List Int32) (fv : Value) : mOk (gP xs fv) gTs gXt 37 mI37 := ckM_ok kM37 dk37 rfl (fun _ => rfl) rfl rfl kE6 kL6
set_option maxRecDepth 100000 in
theorem kM38 : ckM 38 mI38 [714, 107] = true := by decide +kernel
theorem gM38 (xs : List Int32) (fv : Value) : mOk (gP xs fv) gTs gXt 38 mI38 := ckM_ok kM38 dk38 rfl (fun _ => rfl) rfl rfl kE6 kL6
set_option maxRecDepth 100000 in
theorem kM39 : ckM 39 mI39 [802, 107] = true := by decide +kernel
theorem gM39 (xs : List Int32) (fv : Value) : mOk (gP xs fv) gTs gXt 39 mI39 := ckM_ok kM39 dk39 rfl (fun _ => rfl) rfl rfl kE6 kL6
set_option maxRecDepth 100000 in
theorem kM40 : ckM 40 mI40 [726, 107] = true := by decide +kernel
theorem gM40 (xs : List Int32) (fv : Value) : mOk (gP xs fv) gTs gXt 40 mI40 := ckM_ok kM40 dk40 rfl (fun _ => rfl) rfl rfl kE6 kL6
set_option maxRecDepth 100000 in
theorem kM41 : ckM 41 mI41 [722, 107] = true := by decide +kernel
theorem gM41 (xs : List Int32) (fv : Value) : mOk (gP xs fv) gTs gXt 41 mI41 := ckM_ok kM41 dk41 rfl (fun _ => rfl) rfl rfl kE6 kL6
set_option maxRecDepth 100000 in
theorem kM42 : ckM 42 mI42 [749, 107] = true := by decide +kernel
theorem gM42 (xs : List Int32) (fv : Value) : mOk (gP xs fv) gTs gXt 42 mI42 := ckM_ok kM42 dk42 rfl (fun _ => rfl) rfl rfl kE6 kL6
set_option maxRecDepth 100000 in
theorem kM43 : ckM 43 mI43 [718, 107] = true := by decide +kernel
theorem gM43 (xs : List Int32) (fv : Value) : mOk (gP xs fv) gTs gXt 43 mI43 := ckM_ok kM43 dk43 rfl (fun _ => rfl) rfl rfl kE6 kL6
set_option maxRecDepth 100000 in
theorem kM44 : ckM 44 mI44 [754, 107] = true := by decide +kernel
theorem gM44 (xs : List Int32) (fv : Value) : mOk (gP xs fv) gTs gXt 44 mI44 := ckM_ok kM44 dk44 rfl (fun _ => rfl) rfl rfl kE6 kL6
set_option maxRecDepth 100000 in
theorem kM45 : ckM 45 mI45 [758, 107] = true := by decide +kernel
theorem gM45 (xs : List Int32) (fv : Value) : mOk (gP xs fv) gTs gXt 45 mI45 := ckM_ok kM45 dk45 rfl (fun _ => rfl) rfl rfl kE6 kL6
set_option maxRecDepth 100000 in
theorem kM46 : ckM 46 mI46 [762, 107] = true := by decide +kernel
theorem gM46 (xs : List Int32) (fv : Value) : mOk (gP xs fv) gTs gXt 46 mI46 := ckM_ok kM46 dk46 rfl (fun _ => rfl) rfl rfl kE6 kL6
set_option maxRecDepth 100000 in
theorem kM47 : ckM 47 mI47 [766, 107] = true := by decide +kernel
theorem gM47 (xs : List Int32) (fv : Value) : mOk (gP xs fv) gTs gXt 47 mI47 := ckM_ok kM47 dk47 rfl (fun _ => rfl) rfl rfl kE6 kL6
set_option maxRecDepth 100000 in
theorem kM48 : ckM 48 mI48 [732, 107] = true := by decide +kernel
theorem gM48 (xs : List Int32) (fv : Value) : mOk (gP xs fv) gTs gXt 48 mI48 := ckM_ok kM48 dk48 rfl (fun _ => rfl) rfl rfl kE6 kL6
set_option maxRecDepth 100000 in
theorem kM49 : ckM 49 mI49 [736, 107] = true := by decide +kernel
theorem gM49 (xs : List Int32) (fv : Value) : mOk (gP xs fv) gTs gXt 49 mI49 := ckM_ok kM49 dk49 rfl (fun _ => rfl) rfl rfl kE6 kL6
set_option maxRecDepth 100000 in
theorem kM50 : ckM 50 mI50 [740, 107] = true := by decide +kernel
theorem gM50 (xs : List Int32) (fv : Value) : mOk (gP xs fv) gTs gXt 50 mI50 := ckM_ok kM50 dk50 rfl (fun _ => rfl) rfl rfl kE6 kL6
set_option maxRecDepth 100000 in
theorem kM51 : ckM 51 mI51 [745, 107] = true := by decide +kernel
theorem gM51 (xs : List Int32) (fv : Value) : mOk (gP xs fv) gTs gXt 51 mI51 := ckM_ok kM51 dk51 rfl (fun _ => rfl) rfl rfl kE6 kL6
set_option maxRecDepth 100000 in
theorem kM52 : ckM 52 mI52 [371, 112] = true := by decide +kernel
theorem gM52 (xs : List Int32) (fv : Value) : mOk (gP xs fv) gTs gXt 52 mI52 := ckM_ok kM52 dk52 rfl (fun _ => rfl) rfl rfl kE7 kL7
set_option maxRecDepth 100000 in
theorem kM53 : ckM 53 mI53 [1030, 112] = true := by decide +kernel
theorem gM53 (xs : List Int32) (fv : Value) : mOk (gP xs fv) gTs gXt 53 mI53 := ckM_ok kM53 dk53 rfl (fun _ => rfl) rfl rfl kE7 kL7
set_option maxRecDepth 100000 in
theorem kM54 : ckM 54 mI54 [1049, 112] = true := by decide +kernel
theorem gM54 (xs : List Int32) (fv : Value) : mOk (gP xs fv) gTs gXt 54 mI54 := ckM_ok kM54 dk54 rfl (fun _ => rfl) rfl rfl kE7 kL7
set_option maxRecDepth 100000 in
theorem kM55 : ckM 55 mI55 [1062, 112] = true := by decide +kernel
theorem gM55 (xs : List Int32) (fv : Value) : mOk (gP xs fv) gTs gXt 55 mI55 := ckM_ok kM55 dk55 rfl (fun _ => rfl) rfl rfl kE7 kL7
set_option maxRecDepth 100000 in
theorem kM56 : ckM 56 mI56 [1065, 112] = true := by decide +kernel
theorem gM56 (xs : List Int32) (fv : Value) : mOk (gP xs fv) gTs gXt 56 mI56 := ckM_ok kM56 dk56 rfl (fun _ => rfl) rfl rfl kE7 kL7
set_option maxRecDepth 100000 in
theorem kM57 : ckM 57 mI57 [1069, 112] = true := by decide +kernel
theorem gM57 (xs : List Int32) (fv : Value) : mOk (gP xs fv) gTs gXt 57 mI57 := ckM_ok kM57 dk57 rfl (fun _ => rfl) rfl rfl kE7 kL7
set_option maxRecDepth 100000 in
theorem kM58 : ckM 58 mI58 [1075, 112] = true := by decide +kernel
theorem gM58 (xs : List Int32) (fv : Value) : mOk (gP xs fv) gTs gXt 58 mI58 := ckM_ok kM58 dk58 rfl (fun _ => rfl) rfl rfl kE7 kL7
set_option maxRecDepth 100000 in
theorem kM59 : ckM 59 mI59 [1083, 112] = true := by decide +kernel
theorem gM59 (xs : List Int32) (fv : Value) : mOk (gP xs fv) gTs gXt 59 mI59 := ckM_ok kM59 dk59 rfl (fun _ => rfl) rfl rfl kE7 kL7
set_option maxRecDepth 100000 in
theorem kM60 : ckM 60 mI60 [1087, 112] = true := by decide +kernel
theorem gM60 (xs : List Int32) (fv : Value) : mOk (gP xs fv) gTs gXt 60 mI60 := ckM_ok kM60 dk60 rfl (fun _ => rfl) rfl rfl kE7 kL7
set_option maxRecDepth 100000 in
theorem kM61 : ckM 61 mI61 [1091, 112] = true := by decide +kernel
theorem gM61 (xs : List Int32) (fv : Value) : mOk (gP xs fv) gTs gXt 61 mI61 := ckM_ok kM61 dk61 rfl (fun _ => rfl) rfl rfl kE7 kL7
set_option maxRecDepth 100000 in
theorem kM62 : ckM 62 mI62 [1099, 112] = true := by decide +kernel
theorem gM62 (xs : List Int32) (fv : Value) : mOk (gP xs fv) gTs gXt 62 mI62 := ckM_ok kM62 dk62 rfl (fun _ => rfl) rfl rfl kE7 kL7
set_option maxRecDepth 100000 in
theorem kM63 : ckM 63 mI63 [1107, 112] = true := by decide +kernel
theorem gM63 (xs : List Int32) (fv : Value) : mOk (gP xs fv) gTs gXt 63 mI63 := ckM_ok kM63 dk63 rfl (fun _ => rfl) rfl rfl kE7 kL7
set_option maxRecDepth 100000 in
theorem kM64 : ckM 64 mI64 [1111, 112] = true := by decide +kernel
theorem gM64 (xs : List Int32) (fv : Value) : mOk (gP xs fv) gTs gXt 64 mI64 := ckM_ok kM64 dk64 rfl (fun _ => rfl) rfl rfl kE7 kL7
set_option maxRecDepth 100000 in
theorem kM65 : ckM 65 mI65 [1117, 112] = true := by decide +kernel
theorem gM65 (xs : List Int32) (fv : Value) : mOk (gP xs fv) gTs gXt 65 mI65 := ckM_ok kM65 dk65 rfl (fun _ => rfl) rfl rfl kE7 kL7
set_option maxRecDepth 100000 in
theorem kM66 : ckM 66 mI66 [1125, 112] = true := by decide +kernel
theorem gM66 (xs : List Int32) (fv : Value) : mOk (gP xs fv) gTs gXt 66 mI66 := ckM_ok kM66 dk66 rfl (fun _ => rfl) rfl rfl kE7 kL7
set_option maxRecDepth 100000 in
theorem kM67 : ckM 67 mI67 [1129, 112] = true := by decide +kernel
theorem gM67 (xs : List Int32) (fv : Value) : mOk (gP xs fv) gTs gXt 67 mI67 := ckM_ok kM67 dk67 rfl (fun _ => rfl) rfl rfl kE7 kL7
set_option maxRecDepth 100000 in
theorem kM68 : ckM 68 mI68 [1151, 112] = true := by decide +kernel
theorem gM68 (xs : List Int32) (fv : Value) : mOk (gP xs fv) gTs gXt 68 mI68 := ckM_ok kM68 dk68 rfl (fun _ => rfl) rfl rfl kE7 kL7
set_option maxRecDepth 100000 in
theorem kM69 : ckM 69 mI69 [1166, 112] = true := by decide +kernel
theorem gM69 (xs : List Int32) (fv : Value) : mOk (gP xs fv) gTs gXt 69 mI69 := ckM_ok kM69 dk69 rfl (fun _ => rfl) rfl rfl kE7 kL7
set_option maxRecDepth 100000 in
theorem kM70 : ckM 70 mI70 [1175, 113] = true := by decide +kernel
theorem gM70 (xs : List Int32) (fv : Value) : mOk (gP xs fv) gTs gXt 70 mI70 := ckM_ok kM70 dk70 rfl (fun _ => rfl) rfl rfl kE3 kL3
set_option maxRecDepth 100000 in
theorem kM71 : ckM 71 mI71 [1229, 112] = true := by decide +kernel
theorem gM71 (xs : List Int32) (fv : Value) : mOk (gP xs fv) gTs gXt 71 mI71 := ckM_ok kM71 dk71 rfl (fun _ => rfl) rfl rfl kE7 kL7
set_option maxRecDepth 100000 in
theorem kM72 : ckM 72 mI72 [1237, 112] = true := by decide +kernel
theorem gM72 (xs : List Int32) (fv : Value) : mOk (gP xs fv) gTs gXt 72 mI72 := ckM_ok kM72 dk72 rfl (fun _ => rfl) rfl rfl kE7 kL7
set_option maxRecDepth 100000 in
theorem kM73 : ckM 73 mI73 [1247, 112] = true := by decide +kernel
theorem gM73 (xs : List Int32) (fv : Value) : mOk (gP xs fv) gTs gXt 73 mI73 := ckM_ok kM73 dk73 rfl (fun _ => rfl) rfl rfl kE7 kL7
set_option maxRecDepth 100000 in
theorem kM74 : ckM 74 mI74 [1257, 112] = true := by decide +kernel
theorem gM74 (xs : List Int32) (fv : Value) : mOk (gP xs fv) gTs gXt 74 mI74 := ckM_ok kM74 dk74 rfl (fun _ => rfl) rfl rfl kE7 kL7
set_option maxRecDepth 100000 in
theorem kM75 : ckM 75 mI75 [1233, 112] = true := by decide +kernel
theorem gM75 (xs : List Int32) (fv : Value) : mOk (gP xs fv) gTs gXt 75 mI75 := ckM_ok kM75 dk75 rfl (fun _ => rfl) rfl rfl kE7 kL7
set_option maxRecDepth 100000 in
theorem kM76 : ckM 76 mI76 [1269, 112] = true := by decide +kernel
theorem gM76 (xs : List Int32) (fv : Value) : mOk (gP xs fv) gTs gXt 76 mI76 := ckM_ok kM76 dk76 rfl (fun _ => rfl) rfl rfl kE7 kL7
set_option maxRecDepth 100000 in
theorem kM77 : ckM 77 mI77 [1277, 112] = true := by decide +kernel
theorem gM77 (xs : List Int32) (fv : Value) : mOk (gP xs fv) gTs gXt 77 mI77 := ckM_ok kM77 dk77 rfl (fun _ => rfl) rfl rfl kE7 kL7
set_option maxRecDepth 100000 in
theorem kM78 : ckM 78 mI78 [303, 110] = true := by decide +kernel
theorem gM78 (xs : List Int32) (fv : Value) : mOk (gP xs fv) gTs gXt 78 mI78 := ckM_ok kM78 dk78 rfl (fun _ => rfl) rfl rfl kE8 kL8
set_option maxRecDepth 100000 in
theorem kM79 : ckM 79 mI79 [865, 110] = true := by decide +kernel
theorem gM79 (xs : List Int32) (fv : Value) : mOk (gP xs fv) gTs gXt 79 mI79 := ckM_ok kM79 dk79 rfl (fun _ => rfl) rfl rfl kE8 kL8
set_option maxRecDepth 100000 in
theorem kM80 : ckM 80 mI80 [853, 110] = true := by decide +kernel
theorem gM80 (xs : List Int32) (fv : Value) : mOk (gP xs fv) gTs gXt 80 mI80 := ckM_ok kM80 dk80 rfl (fun _ => rfl) rfl rfl kE8 kL8
set_option maxRecDepth 100000 in
theorem kM81 : ckM 81 mI81 [951, 110] = true := by decide +kernel
theorem gM81 (xs : List Int32) (fv : Value) : mOk (gP xs fv) gTs gXt 81 mI81 := ckM_ok kM81 dk81 rfl (fun _ => rfl) rfl rfl kE8 kL8
set_option maxRecDepth 100000 in
theorem kM82 : ckM 82 mI82 [956, 110] = true := by decide +kernel
theorem gM82 (xs : List Int32) (fv : Value) : mOk (gP xs fv) gTs gXt 82 mI82 := ckM_ok kM82 dk82 rfl (fun _ => rfl) rfl rfl kE8 kL8
set_option maxRecDepth 100000 in
theorem kM83 : ckM 83 mI83 [962, 110] = true := by decide +kernel
theorem gM83 (xs : List Int32) (fv : Value) : mOk (gP xs fv) gTs gXt 83 mI83 := ckM_ok kM83 dk83 rfl (fun _ => rfl) rfl rfl kE8 kL8
set_option maxRecDepth 100000 in
theorem kM84 : ckM 84 mI84 [1035, 110] = true := by decide +kernel
theorem gM84 (xs : List Int32) (fv : Value) : mOk (gP xs fv) gTs gXt 84 mI84 := ckM_ok kM84 dk84 rfl (fun _ => rfl) rfl rfl kE8 kL8
set_option maxRecDepth 100000 in
theorem kM85 : ckM 85 mI85 [1041, 110] = true := by decide +kernel
theorem gM85 (xs : List Int32) (fv : Value) : mOk (gP xs fv) gTs gXt 85 mI85 := ckM_ok kM85 dk85 rfl (fun _ => rfl) rfl rfl kE8 kL8
set_option maxRecDepth 100000 in
theorem kM86 : ckM 86 mI86 [240, 109] = true := by decide +kernel
theorem gM86 (xs : List Int32) (fv : Value) : mOk (gP xs fv) gTs gXt 86 mI86 := ckM_ok kM86 dk86 rfl (fun _ => rfl) rfl rfl kE9 kL9
set_option maxRecDepth 100000 in
theorem kM87 : ckM 87 mI87 [1072, 109] = true := by decide +kernel
theorem gM87 (xs : List Int32) (fv : Value) : mOk (gP xs fv) gTs gXt 87 mI87 := ckM_ok kM87 dk87 rfl (fun _ => rfl) rfl rfl kE9 kL9
set_option maxRecDepth 100000 in
theorem kM88 : ckM 88 mI88 [786, 109] = true := by decide +kernel
theorem gM88 (xs : List Int32) (fv : Value) : mOk (gP xs fv) gTs gXt 88 mI88 := ckM_ok kM88 dk88 rfl (fun _ => rfl) rfl rfl kE9 kL9
set_option maxRecDepth 100000 in
theorem kM89 : ckM 89 mI89 [869, 109] = true := by decide +kernel
theorem gM89 (xs : List Int32) (fv : Value) : mOk (gP xs fv) gTs gXt 89 mI89 := ckM_ok kM89 dk89 rfl (fun _ => rfl) rfl rfl kE9 kL9
set_option maxRecDepth 100000 in
theorem kM90 : ckM 90 mI90 [857, 109] = true := by decide +kernel
theorem gM90 (xs : List Int32) (fv : Value) : mOk (gP xs fv) gTs gXt 90 mI90 := ckM_ok kM90 dk90 rfl (fun _ => rfl) rfl rfl kE9 kL9
set_option maxRecDepth 100000 in
theorem kM91 : ckM 91 mI91 [873, 109] = true := by decide +kernel
theorem gM91 (xs : List Int32) (fv : Value) : mOk (gP xs fv) gTs gXt 91 mI91 := ckM_ok kM91 dk91 rfl (fun _ => rfl) rfl rfl kE9 kL9
set_option maxRecDepth 100000 in
theorem kM92 : ckM 92 mI92 [877, 109] = true := by decide +kernel
theorem gM92 (xs : List Int32) (fv : Value) : mOk (gP xs fv) gTs gXt 92 mI92 := ckM_ok kM92 dk92 rfl (fun _ => rfl) rfl rfl kE9 kL9
set_option maxRecDepth 100000 in
theorem kM93 : ckM 93 mI93 [861, 109] = true := by decide +kernel
theorem gM93 (xs : List Int32) (fv : Value) : mOk (gP xs fv) gTs gXt 93 mI93 := ckM_ok kM93 dk93 rfl (fun _ => rfl) rfl rfl kE9 kL9
set_option maxRecDepth 100000 in
theorem kM94 : ckM 94 mI94 [924, 109] = true := by decide +kernel
theorem gM94 (xs : List Int32) (fv : Value) : mOk (gP xs fv) gTs gXt 94 mI94 := ckM_ok kM94 dk94 rfl (fun _ => rfl) rfl rfl kE9 kL9
set_option maxRecDepth 100000 in
theorem kM95 : ckM 95 mI95 [779, 109] = true := by decide +kernel
theorem gM95 (xs : List Int32) (fv : Value) : mOk (gP xs fv) gTs gXt 95 mI95 := ckM_ok kM95 dk95 rfl (fun _ => rfl) rfl rfl kE9 kL9
set_option maxRecDepth 100000 in
theorem kM96 : ckM 96 mI96 [790, 109] = true := by decide +kernel
theorem gM96 (xs : List Int32) (fv : Value) : mOk (gP xs fv) gTs gXt 96 mI96 := ckM_ok kM96 dk96 rfl (fun _ => rfl) rfl rfl kE9 kL9
set_option maxRecDepth 100000 in
theorem kM97 : ckM 97 mI97 [914, 109] = true := by decide +kernel
theorem gM97 (xs : List Int32) (fv : Value) : mOk (gP xs fv) gTs gXt 97 mI97 := ckM_ok kM97 dk97 rfl (fun _ => rfl) rfl rfl kE9 kL9
set_option maxRecDepth 100000 in
theorem kM98 : ckM 98 mI98 [142, 105] = true := by decide +kernel
theorem gM98 (xs : List Int32) (fv : Value) : mOk (gP xs fv) gTs gXt 98 mI98 := ckM_ok kM98 dk98 rfl (fun _ => rfl) rfl rfl kE10 kL10
set_option maxRecDepth 100000 in
theorem kM99 : ckM 99 mI99 [514, 105] = true := by decide +kernel
theorem gM99 (xs : List Int32) (fv : Value) : mOk (gP xs fv) gTs gXt 99 mI99 := ckM_ok kM99 dk99 rfl (fun _ => rfl) rfl rfl kE10 kL10
set_option maxRecDepth 100000 in
theorem kM100 : ckM 100 mI100 [518, 105] = true := by decide +kernel
theorem gM100 (xs : List Int32) (fv : Value) : mOk (gP xs fv) gTs gXt 100 mI100 := ckM_ok kM100 dk100 rfl (fun _ => rfl) rfl rfl kE10 kL10
set_option maxRecDepth 100000 in
theorem kM101 : ckM 101 mI101 [550, 105] = true := by decide +kernel
theorem gM101 (xs : List Int32) (fv : Value) : mOk (gP xs fv) gTs gXt 101 mI101 := ckM_ok kM101 dk101 rfl (fun _ => rfl) rfl rfl kE10 kL10
set_option maxRecDepth 100000 in
theorem kM102 : ckM 102 mI102 [554, 105] = true := by decide +kernel
theorem gM102 (xs : List Int32) (fv : Value) : mOk (gP xs fv) gTs gXt 102 mI102 := ckM_ok kM102 dk102 rfl (fun _ => rfl) rfl rfl kE10 kL10
set_option maxRecDepth 100000 in
theorem kM103 : ckM 103 mI103 [681, 105] = true := by decide +kernel
theorem gM103 (xs : List Int32) (fv : Value) : mOk (gP xs fv) gTs gXt 103 mI103 := ckM_ok kM103 dk103 rfl (fun _ => rfl) rfl rfl kE10 kL10
set_option maxRecDepth 100000 in
theorem kM104 : ckM 104 mI104 [422, 114] = true := by decide +kernel
theorem gM104 (xs : List Int32) (fv : Value) : mOk (gP xs fv) gTs gXt 104 mI104 := ckM_ok kM104 dk104 rfl (fun _ => rfl) rfl rfl kE11 kL11
set_option maxRecDepth 100000 in
theorem kM105 : ckM 105 mI105 [1184, 114] = true := by decide +kernel
theorem gM105 (xs : List Int32) (fv : Value) : mOk (gP xs fv) gTs gXt 105 mI105 := ckM_ok kM105 dk105 rfl (fun _ => rfl) rfl rfl kE11 kL11
set_option maxRecDepth 100000 in
theorem kM106 : ckM 106 mI106 [1192, 114] = true := by decide +kernel
theorem gM106 (xs : List Int32) (fv : Value) : mOk (gP xs fv) gTs gXt 106 mI106 := ckM_ok kM106 dk106 rfl (fun _ => rfl) rfl rfl kE11 kL11
set_option maxRecDepth 100000 in
theorem kM107 : ckM 107 mI107 [1201, 114] = true := by decide +kernel
theorem gM107 (xs : List Int32) (fv : Value) : mOk (gP xs fv) gTs gXt 107 mI107 := ckM_ok kM107 dk107 rfl (fun _ => rfl) rfl rfl kE11 kL11
set_option maxRecDepth 100000 in
theorem kM108 : ckM 108 mI108 [1207, 114] = true := by decide +kernel
theorem gM108 (xs : List Int32) (fv : Value) : mOk (gP xs fv) gTs gXt 108 mI108 := ckM_ok kM108 dk108 rfl (fun _ => rfl) rfl rfl kE11 kL11
set_option maxRecDepth 100000 in
theorem kM109 : ckM 109 mI109 [1212, 114] = true := by decide +kernel
theorem gM109 (xs : List Int32) (fv : Value) : mOk (gP xs fv) gTs gXt 109 mI109 := ckM_ok kM109 dk109 rfl (fun _ => rfl) rfl rfl kE11 kL11
set_option maxRecDepth 100000 in
theorem kM110 : ckM 110 mI110 [1220, 114] = true := by decide +kernel
theorem gM110 (xs : List Int32) (fv : Value) : mOk (gP xs fv) gTs gXt 110 mI110 := ckM_ok kM110 dk110 rfl (fun _ => rfl) rfl rfl kE11 kL11
set_option maxRecDepth 100000 in
theorem kM111 : ckM 111 mI111 [134, 104] = true := by decide +kernel
theorem gM111 (xs : List Int32) (fv : Value) : mOk (gP xs fv) gTs gXt 111 mI111 := ckM_ok kM111 dk111 rfl (fun _ => rfl) rfl rfl kE12 kL12
set_option maxRecDepth 100000 in
theorem kM112 : ckM 112 mI112 [511, 104] = true := by decide +kernel
theorem gM112 (xs : List Int32) (fv : Value) : mOk (gP xs fv) gTs gXt 112 mI112 := ckM_ok kM112 dk112 rfl (fun _ => rfl) rfl rfl kE12 kL12
set_option maxRecDepth 100000 in
theorem kM113 : ckM 113 mI113 [522, 104] = true := by decide +kernel
theorem gM113 (xs : List Int32) (fv : Value) : mOk (gP xs fv) gTs gXt 113 mI113 := ckM_ok kM113 dk113 rfl (fun _ => rfl) rfl rfl kE12 kL12
set_option maxRecDepth 100000 in
theorem kM114 : ckM 114 mI114 [526, 104] = true := by decide +kernel
theorem gM114 (xs : List Int32) (fv : Value) : mOk (gP xs fv) gTs gXt 114 mI114 := ckM_ok kM114 dk114 rfl (fun _ => rfl) rfl rfl kE12 kL12
set_option maxRecDepth 100000 in
theorem kM115 : ckM 115 mI115 [771, 104] = true := by decide +kernel
theorem gM115 (xs : List Int32) (fv : Value) : mOk (gP xs fv) gTs gXt 115 mI115 := ckM_ok kM115 dk115 rfl (fun _ => rfl) rfl rfl kE12 kL12
set_option maxRecDepth 100000 in
theorem kM116 : ckM 116 mI116 [828, 104] = true := by decide +kernel
theorem gM116 (xs : List Int32) (fv : Value) : mOk (gP xs fv) gTs gXt 116 mI116 := ckM_ok kM116 dk116 rfl (fun _ => rfl) rfl rfl kE12 kL12
set_option maxRecDepth 100000 in
theorem kM117 : ckM 117 mI117 [836, 104] = true := by decide +kernel
theorem gM117 (xs : List Int32) (fv : Value) : mOk (gP xs fv) gTs gXt 117 mI117 := ckM_ok kM117 dk117 rfl (fun _ => rfl) rfl rfl kE12 kL12
set_option maxRecDepth 100000 in
theorem kM118 : ckM 118 mI118 [1307, 104] = true := by decide +kernel
theorem gM118 (xs : List Int32) (fv : Value) : mOk (gP xs fv) gTs gXt 118 mI118 := ckM_ok kM118 dk118 rfl (fun _ => rfl) rfl rfl kE12 kL12
set_option maxRecDepth 100000 in
theorem kM119 : ckM 119 mI119 [845, 104] = true := by decide +kernel
theorem gM119 (xs : List Int32) (fv : Value) : mOk (gP xs fv) gTs gXt 119 mI119 := ckM_ok kM119 dk119 rfl (fun _ => rfl) rfl rfl kE12 kL12
set_option maxRecDepth 100000 in
theorem kM120 : ckM 120 mI120 [849, 104] = true := by decide +kernel
theorem gM120 (xs : List Int32) (fv : Value) : mOk (gP xs fv) gTs gXt 120 mI120 := ckM_ok kM120 dk120 rfl (fun _ => rfl) rfl rfl kE12 kL12
set_option maxRecDepth 100000 in
theorem kM121 : ckM 121 mI121 [897, 104] = true := by decide +kernel
theorem gM121 (xs : List Int32) (fv : Value) : mOk (gP xs fv) gTs gXt 121 mI121 := ckM_ok kM121 dk121 rfl (fun _ => rfl) rfl rfl kE12 kL12
set_option maxRecDepth 100000 in
theorem kM122 : ckM 122 mI122 [920, 104] = true := by decide +kernel
theorem gM122 (xs : List Int32) (fv : Value) : mOk (gP xs fv) gTs gXt 122 mI122 := ckM_ok kM122 dk122 rfl (fun _ => rfl) rfl rfl kE12 kL12
set_option maxRecDepth 100000 in
theorem kM123 : ckM 123 mI123 [930, 104] = true := by decide +kernel
theorem gM123 (xs : List Int32) (fv : Value) : mOk (gP xs fv) gTs gXt 123 mI123 := ckM_ok kM123 dk123 rfl (fun _ => rfl) rfl rfl kE12 kL12
set_option maxRecDepth 100000 in
theorem kM124 : ckM 124 mI124 [935, 104] = true := by decide +kernel
theorem gM124 (xs : List Int32) (fv : Value) : mOk (gP xs fv) gTs gXt 124 mI124 := ckM_ok kM124 dk124 rfl (fun _ => rfl) rfl rfl kE12 kL12
set_option maxRecDepth 100000 in
theorem kM125 : ckM 125 mI125 [939, 104] = true := by decide +kernel
theorem gM125 (xs : List Int32) (fv : Value) : mOk (gP xs fv) gTs gXt 125 mI125 := ckM_ok kM125 dk125 rfl (fun _ => rfl) rfl rfl kE12 kL12
set_option maxRecDepth 100000 in
theorem kM126 : ckM 126 mI126 [970, 104] = true := by decide +kernel
theorem gM126 (xs : List Int32) (fv : Value) : mOk (gP xs fv) gTs gXt 126 mI126 := ckM_ok kM126 dk126 rfl (fun _ => rfl) rfl rfl kE12 kL12
set_option maxRecDepth 100000 in
theorem kM127 : ckM 127 mI127 [975, 104] = true := by decide +kernel
theorem gM127 (xs : List Int32) (fv : Value) : mOk (gP xs fv) gTs gXt 127 mI127 := ckM_ok kM127 dk127 rfl (fun _ => rfl) rfl rfl kE12 kL12
set_option maxRecDepth 100000 in
theorem kM128 : ckM 128 mI128 [979, 104] = true := by decide +kernel
theorem gM128 (xs : List Int32) (fv : Value) : mOk (gP xs fv) gTs gXt 128 mI128 := ckM_ok kM128 dk128 rfl (fun _ => rfl) rfl rfl kE12 kL12
set_option maxRecDepth 100000 in
theorem kM129 : ckM 129 mI129 [993, 104] = true := by decide +kernel
theorem gM129 (xs : List Int32) (fv : Value) : mOk (gP xs fv) gTs gXt 129 mI129 := ckM_ok kM129 dk129 rfl (fun _ => rfl) rfl rfl kE12 kL12
set_option maxRecDepth 100000 in
theorem kM130 : ckM 130 mI130 [997, 104] = true := by decide +kernel
theorem gM130 (xs : List Int32) (fv : Value) : mOk (gP xs fv) gTs gXt 130 mI130 := ckM_ok kM130 dk130 rfl (fun _ => rfl) rfl rfl kE12 kL12
set_option maxRecDepth 100000 in
theorem kM131 : ckM 131 mI131 [1005, 104] = true := by decide +kernel
theorem gM131 (xs : List Int32) (fv : Value) : mOk (gP xs fv) gTs gXt 131 mI131 := ckM_ok kM131 dk131 rfl (fun _ => rfl) rfl rfl kE12 kL12
set_option maxRecDepth 100000 in
theorem kM132 : ckM 132 mI132 [1026, 104] = true := by decide +kernel
theorem gM132 (xs : List Int32) (fv : Value) : mOk (gP xs fv) gTs gXt 132 mI132 := ckM_ok kM132 dk132 rfl (fun _ => rfl) rfl rfl kE12 kL12
set_option maxRecDepth 100000 in
theorem kM133 : ckM 133 mI133 [1045, 104] = true := by decide +kernel
theorem gM133 (xs : List Int32) (fv : Value) : mOk (gP xs fv) gTs gXt 133 mI133 := ckM_ok kM133 dk133 rfl (fun _ => rfl) rfl rfl kE12 kL12
set_option maxRecDepth 100000 in
theorem kM134 : ckM 134 mI134 [1055, 104] = true := by decide +kernel
theorem gM134 (xs : List Int32) (fv : Value) : mOk (gP xs fv) gTs gXt 134 mI134 := ckM_ok kM134 dk134 rfl (fun _ => rfl) rfl rfl kE12 kL12
set_option maxRecDepth 100000 in
theorem kM135 : ckM 135 mI135 [1079, 104] = true := by decide +kernel
theorem gM135 (xs : List Int32) (fv : Value) : mOk (gP xs fv) gTs gXt 135 mI135 := ckM_ok kM135 dk135 rfl (fun _ => rfl) rfl rfl kE12 kL12
set_option maxRecDepth 100000 in
theorem kM136 : ckM 136 mI136 [1095, 104] = true := by decide +kernel
theorem gM136 (xs : List Int32) (fv : Value) : mOk (gP xs fv) gTs gXt 136 mI136 := ckM_ok kM136 dk136 rfl (fun _ => rfl) rfl rfl kE12 kL12
set_option maxRecDepth 100000 in
theorem kM137 : ckM 137 mI137 [1103, 104] = true := by decide +kernel
theorem gM137 (xs : List Int32) (fv : Value) : mOk (gP xs fv) gTs gXt 137 mI137 := ckM_ok kM137 dk137 rfl (fun _ => rfl) rfl rfl kE12 kL12
set_option maxRecDepth 100000 in
theorem kM138 : ckM 138 mI138 [1121, 104] = true := by decide +kernel
theorem gM138 (xs : List Int32) (fv : Value) : mOk (gP xs fv) gTs gXt 138 mI138 := ckM_ok kM138 dk138 rfl (fun _ => rfl) rfl rfl kE12 kL12
set_option maxRecDepth 100000 in
theorem kM139 : ckM 139 mI139 [1146, 104] = true := by decide +kernel
theorem gM139 (xs : List Int32) (fv : Value) : mOk (gP xs fv) gTs gXt 139 mI139 := ckM_ok kM139 dk139 rfl (fun _ => rfl) rfl rfl kE12 kL12
set_option maxRecDepth 100000 in
theorem kM140 : ckM 140 mI140 [1162, 104] = true := by decide +kernel
theorem gM140 (xs : List Int32) (fv : Value) : mOk (gP xs fv) gTs gXt 140 mI140 := ckM_ok kM140 dk140 rfl (fun _ => rfl) rfl rfl kE12 kL12
set_option maxRecDepth 100000 in
theorem kM141 : ckM 141 mI141 [1171, 104] = true := by decide +kernel
theorem gM141 (xs : List Int32) (fv : Value) : mOk (gP xs fv) gTs gXt 141 mI141 := ckM_ok kM141 dk141 rfl (fun _ => rfl) rfl rfl kE12 kL12
set_option maxRecDepth 100000 in
theorem kM142 : ckM 142 mI142 [1180, 104] = true := by decide +kernel
theorem gM142 (xs : List Int32) (fv : Value) : mOk (gP xs fv) gTs gXt 142 mI142 := ckM_ok kM142 dk142 rfl (fun _ => rfl) rfl rfl kE12 kL12
set_option maxRecDepth 100000 in
theorem kM143 : ckM 143 mI143 [1188, 104] = true := by decide +kernel
theorem gM143 (xs : List Int32) (fv : Value) : mOk (gP xs fv) gTs gXt 143 mI143 := ckM_ok kM143 dk143 rfl (fun _ => rfl) rfl rfl kE12 kL12
set_option maxRecDepth 100000 in
theorem kM144 : ckM 144 mI144 [1216, 104] = true := by decide +kernel
theorem gM144 (xs : List Int32) (fv : Value) : mOk (gP xs fv) gTs gXt 144 mI144 := ckM_ok kM144 dk144 rfl (fun _ => rfl) rfl rfl kE12 kL12
set_option maxRecDepth 100000 in
theorem kM145 : ckM 145 mI145 [1225, 104] = true := by decide +kernel
theorem gM145 (xs : List Int32) (fv : Value) : mOk (gP xs fv) gTs gXt 145 mI145 := ckM_ok kM145 dk145 rfl (fun _ => rfl) rfl rfl kE12 kL12
set_option maxRecDepth 100000 in
theorem kM146 : ckM 146 mI146 [1243, 104] = true := by decide +kernel
theorem gM146 (xs : List Int32) (fv : Value) : mOk (gP xs fv) gTs gXt 146 mI146 := ckM_ok kM146 dk146 rfl (fun _ => rfl) rfl rfl kE12 kL12
set_option maxRecDepth 100000 in
theorem kM147 : ckM 147 mI147 [1253, 104] = true := by decide +kernel
theorem gM147 (xs : List Int32) (fv : Value) : mOk (gP xs fv) gTs gXt 147 mI147 := ckM_ok kM147 dk147 rfl (fun _ => rfl) rfl rfl kE12 kL12
set_option maxRecDepth 100000 in
theorem kM148 : ckM 148 mI148 [1265, 104] = true := by decide +kernel
theorem gM148 (xs : List Int32) (fv : Value) : mOk (gP xs fv) gTs gXt 148 mI148 := ckM_ok kM148 dk148 rfl (fun _ => rfl) rfl rfl kE12 kL12
set_option maxRecDepth 100000 in
theorem kM149 : ckM 149 mI149 [1273, 104] = true := by decide +kernel
theorem gM149 (xs : List Int32) (fv : Value) : mOk (gP xs fv) gTs gXt 149 mI149 := ckM_ok kM149 dk149 rfl (fun _ => rfl) rfl rfl kE12 kL12
set_option maxRecDepth 100000 in
theorem kM150 : ckM 150 mI150 [1281, 104] = true := by decide +kernel
theorem gM150 (xs : List Int32) (fv : Value) : mOk (gP xs fv) gTs gXt 150 mI150 := ckM_ok kM150 dk150 rfl (fun _ => rfl) rfl rfl kE12 kL12
set_option maxRecDepth 100000 in
theorem kM151 : ckM 151 mI151 [1291, 104] = true := by decide +kernel
theorem gM151 (xs : List Int32) (fv : Value) : mOk (gP xs fv) gTs gXt 151 mI151 := ckM_ok kM151 dk151 rfl (fun _ => rfl) rfl rfl kE12 kL12
set_option maxRecDepth 100000 in
theorem kM152 : ckM 152 mI152 [1299, 104] = true := by decide +kernel
theorem gM152 (xs : List Int32) (fv : Value) : mOk (gP xs fv) gTs gXt 152 mI152 := ckM_ok kM152 dk152 rfl (fun _ => rfl) rfl rfl kE12 kL12
set_option maxRecDepth 100000 in
theorem kM153 : ckM 153 mI153 [832, 104] = true := by decide +kernel
theorem gM153 (xs : List Int32) (fv : Value) : mOk (gP xs fv) gTs gXt 153 mI153 := ckM_ok kM153 dk153 rfl (fun _ => rfl) rfl rfl kE12 kL12
set_option maxRecDepth 100000 in
theorem kM154 : ckM 154 mI154 [901, 104] = true := by decide +kernel
theorem gM154 (xs : List Int32) (fv : Value) : mOk (gP xs fv) gTs gXt 154 mI154 := ckM_ok kM154 dk154 rfl (fun _ => rfl) rfl rfl kE12 kL12
set_option maxRecDepth 100000 in
theorem kM155 : ckM 155 mI155 [840, 104] = true := by decide +kernel
theorem gM155 (xs : List Int32) (fv : Value) : mOk (gP xs fv) gTs gXt 155 mI155 := ckM_ok kM155 dk155 rfl (fun _ => rfl) rfl rfl kE12 kL12
set_option maxRecDepth 100000 in
theorem kM156 : ckM 156 mI156 [1058, 104] = true := by decide +kernel
theorem gM156 (xs : List Int32) (fv : Value) : mOk (gP xs fv) gTs gXt 156 mI156 := ckM_ok kM156 dk156 rfl (fun _ => rfl) rfl rfl kE12 kL12
set_option maxRecDepth 100000 in
theorem kM157 : ckM 157 mI157 [905, 104] = true := by decide +kernel
theorem gM157 (xs : List Int32) (fv : Value) : mOk (gP xs fv) gTs gXt 157 mI157 := ckM_ok kM157 dk157 rfl (fun _ => rfl) rfl rfl kE12 kL12
set_option maxRecDepth 100000 in
theorem kM158 : ckM 158 mI158 [775, 104] = true := by decide +kernel
theorem gM158 (xs : List Int32) (fv : Value) : mOk (gP xs fv) gTs gXt 158 mI158 := ckM_ok kM158 dk158 rfl (fun _ => rfl) rfl rfl kE12 kL12
set_option maxRecDepth 100000 in
theorem kM159 : ckM 159 mI159 [798, 104] = true := by decide +kernel
theorem gM159 (xs : List Int32) (fv : Value) : mOk (gP xs fv) gTs gXt 159 mI159 := ckM_ok kM159 dk159 rfl (fun _ => rfl) rfl rfl kE12 kL12
set_option maxRecDepth 100000 in
theorem kM160 : ckM 160 mI160 [947, 104] = true := by decide +kernel
theorem gM160 (xs : List Int32) (fv : Value) : mOk (gP xs fv) gTs gXt 160 mI160 := ckM_ok kM160 dk160 rfl (fun _ => rfl) rfl rfl kE12 kL12
set_option maxRecDepth 100000 in
theorem kM161 : ckM 161 mI161 [987, 104] = true := by decide +kernel
theorem gM161 (xs : List Int32) (fv : Value) : mOk (gP xs fv) gTs gXt 161 mI161 := ckM_ok kM161 dk161 rfl (fun _ => rfl) rfl rfl kE12 kL12
set_option maxRecDepth 100000 in
theorem kM162 : ckM 162 mI162 [983, 104] = true := by decide +kernel
theorem gM162 (xs : List Int32) (fv : Value) : mOk (gP xs fv) gTs gXt 162 mI162 := ckM_ok kM162 dk162 rfl (fun _ => rfl) rfl rfl kE12 kL12
set_option maxRecDepth 100000 in
theorem kM163 : ckM 163 mI163 [1608, 115] = true := by decide +kernel
theorem gM163 (xs : List Int32) (fv : Value) : mOk (gP xs fv) gTs gXt 163 mI163 := ckM_ok kM163 dk163 rfl (fun _ => rfl) rfl rfl kE13 kL13
set_option maxRecDepth 100000 in
theorem kM164 : ckM 164 mI164 [1588, 115] = true := by decide +kernel
theorem gM164 (xs : List Int32) (fv : Value) : mOk (gP xs fv) gTs gXt 164 mI164 := ckM_ok kM164 dk164 rfl (fun _ => rfl) rfl rfl kE13 kL13
set_option maxRecDepth 100000 in
theorem kM165 : ckM 165 mI165 [1379, 115] = true := by decide +kernel
theorem gM165 (xs : List Int32) (fv : Value) : mOk (gP xs fv) gTs gXt 165 mI165 := ckM_ok kM165 dk165 rfl (fun _ => rfl) rfl rfl kE13 kL13
set_option maxRecDepth 100000 in
theorem kM166 : ckM 166 mI166 [1544, 115] = true := by decide +kernel
theorem gM166 (xs : List Int32) (fv : Value) : mOk (gP xs fv) gTs gXt 166 mI166 := ckM_ok kM166 dk166 rfl (fun _ => rfl) rfl rfl kE13 kL13
set_option maxRecDepth 100000 in
theorem kM167 : ckM 167 mI167 [1551, 115] = true := by decide +kernel
theorem gM167 (xs : List Int32) (fv : Value) : mOk (gP xs fv) gTs gXt 167 mI167 := ckM_ok kM167 dk167 rfl (fun _ => rfl) rfl rfl kE13 kL13
set_option maxRecDepth 100000 in
theorem kM168 : ckM 168 mI168 [1548, 115] = true := by decide +kernel
theorem gM168 (xs : List Int32) (fv : Value) : mOk (gP xs fv) gTs gXt 168 mI168 := ckM_ok kM168 dk168 rfl (fun _ => rfl) rfl rfl kE13 kL13
set_option maxRecDepth 100000 in
theorem kM169 : ckM 169 mI169 [1555, 115] = true := by decide +kernel
theorem gM169 (xs : List Int32) (fv : Value) : mOk (gP xs fv) gTs gXt 169 mI169 := ckM_ok kM169 dk169 rfl (fun _ => rfl) rfl rfl kE13 kL13
set_option maxRecDepth 100000 in
theorem kM170 : ckM 170 mI170 [1574, 115] = true := by decide +kernel
theorem gM170 (xs : List Int32) (fv : Value) : mOk (gP xs fv) gTs gXt 170 mI170 := ckM_ok kM170 dk170 rfl (fun _ => rfl) rfl rfl kE13 kL13
set_option maxRecDepth 100000 in
theorem kM171 : ckM 171 mI171 [1570, 115] = true := by decide +kernel
theorem gM171 (xs : List Int32) (fv : Value) : mOk (gP xs fv) gTs gXt 171 mI171 := ckM_ok kM171 dk171 rfl (fun _ => rfl) rfl rfl kE13 kL13
set_option maxRecDepth 100000 in
theorem kM172 : ckM 172 mI172 [1605, 115] = true := by decide +kernel
theorem gM172 (xs : List Int32) (fv : Value) : mOk (gP xs fv) gTs gXt 172 mI172 := ckM_ok kM172 dk172 rfl (fun _ => rfl) rfl rfl kE13 kL13
set_option maxRecDepth 100000 in
theorem kM173 : ckM 173 mI173 [1601, 115] = true := by decide +kernel
theorem gM173 (xs : List Int32) (fv : Value) : mOk (gP xs fv) gTs gXt 173 mI173 := ckM_ok kM173 dk173 rfl (fun _ => rfl) rfl rfl kE13 kL13
set_option maxRecDepth 100000 in
theorem kM174 : ckM 174 mI174 [1640, 115] = true := by decide +kernel
theorem gM174 (xs : List Int32) (fv : Value) : mOk (gP xs fv) gTs gXt 174 mI174 := ckM_ok kM174 dk174 rfl (fun _ => rfl) rfl rfl kE13 kL13
set_option maxRecDepth 100000 in
theorem kM175 : ckM 175 mI175 [1663, 115] = true := by decide +kernel
theorem gM175 (xs : List Int32) (fv : Value) : mOk (gP xs fv) gTs gXt 175 mI175 := ckM_ok kM175 dk175 rfl (fun _ => rfl) rfl rfl kE13 kL13
set_option maxRecDepth 100000 in
theorem kM176 : ckM 176 mI176 [1636, 115] = true := by decide +kernel
theorem gM176 (xs : List Int32) (fv : Value) : mOk (gP xs fv) gTs gXt 176 mI176 := ckM_ok kM176 dk176 rfl (fun _ => rfl) rfl rfl kE13 kL13
set_option maxRecDepth 100000 in
theorem kM177 : ckM 177 mI177 [1644, 115] = true := by decide +kernel
theorem gM177 (xs : List Int32) (fv : Value) : mOk (gP xs fv) gTs gXt 177 mI177 := ckM_ok kM177 dk177 rfl (fun _ => rfl) rfl rfl kE13 kL13
set_option maxRecDepth 100000 in
theorem kM178 : ckM 178 mI178 [1660, 115] = true := by decide +kernel
theorem gM178 (xs : List Int32) (fv : Value) : mOk (gP xs fv) gTs gXt 178 mI178 := ckM_ok kM178 dk178 rfl (fun _ => rfl) rfl rfl kE13 kL13
set_option maxRecDepth 100000 in
theorem kM179 : ckM 179 mI179 [1656, 115] = true := by decide +kernel
theorem gM179 (xs : List Int32) (fv : Value) : mOk (gP xs fv) gTs gXt 179 mI179 := ckM_ok kM179 dk179 rfl (fun _ => rfl) rfl rfl kE13 kL13
set_option maxRecDepth 100000 in
theorem kM180 : ckM 180 mI180 [1652, 115] = true := by decide +kernel
theorem gM180 (xs : List Int32) (fv : Value) : mOk (gP xs fv) gTs gXt 180 mI180 := ckM_ok kM180 dk180 rfl (fun _ => rfl) rfl rfl kE13 kL13
set_option maxRecDepth 100000 in
theorem kM181 : ckM 181 mI181 [1648, 115] = true := by decide +kernel
theorem gM181 (xs : List Int32) (fv : Value) : mOk (gP xs fv) gTs gXt 181 mI181 := ckM_ok kM181 dk181 rfl (fun _ => rfl) rfl rfl kE13 kL13
set_option maxRecDepth 100000 in
theorem kM182 : ckM 182 mI182 [1670, 115] = true := by decide +kernel
theorem gM182 (xs : List Int32) (fv : Value) : mOk (gP xs fv) gTs gXt 182 mI182 := ckM_ok kM182 dk182 rfl (fun _ => rfl) rfl rfl kE13 kL13
set_option maxRecDepth 100000 in
theorem kM183 : ckM 183 mI183 [1667, 115] = true := by decide +kernel
theorem gM183 (xs : List Int32) (fv : Value) : mOk (gP xs fv) gTs gXt 183 mI183 := ckM_ok kM183 dk183 rfl (fun _ => rfl) rfl rfl kE13 kL13
set_option maxRecDepth 100000 in
theorem kM184 : ckM 184 mI184 [1632, 115] = true := by decide +kernel
theorem gM184 (xs : List Int32) (fv : Value) : mOk (gP xs fv) gTs gXt 184 mI184 := ckM_ok kM184 dk184 rfl (fun _ => rfl) rfl rfl kE13 kL13
set_option maxRecDepth 100000 in
theorem kM185 : ckM 185 mI185 [1674, 115] = true := by decide +kernel
theorem gM185 (xs : List Int32) (fv : Value) : mOk (gP xs fv) gTs gXt 185 mI185 := ckM_ok kM185 dk185 rfl (fun _ => rfl) rfl rfl kE13 kL13
set_option maxRecDepth 100000 in
theorem kM186 : ckM 186 mI186 [1678, 115] = true := by decide +kernel
theorem gM186 (xs : List Int32) (fv : Value) : mOk (gP xs fv) gTs gXt 186 mI186 := ckM_ok kM186 dk186 rfl (fun _ => rfl) rfl rfl kE13 kL13
set_option maxRecDepth 100000 in
theorem kM187 : ckM 187 mI187 [1628, 115] = true := by decide +kernel
theorem gM187 (xs : List Int32) (fv : Value) : mOk (gP xs fv) gTs gXt 187 mI187 := ckM_ok kM187 dk187 rfl (fun _ => rfl) rfl rfl kE13 kL13
set_option maxRecDepth 100000 in
theorem kM188 : ckM 188 mI188 [1624, 115] = true := by decide +kernel
theorem gM188 (xs : List Int32) (fv : Value) : mOk (gP xs fv) gTs gXt 188 mI188 := ckM_ok kM188 dk188 rfl (fun _ => rfl) rfl rfl kE13 kL13
set_option maxRecDepth 100000 in
theorem kM189 : ckM 189 mI189 [1620, 115] = true := by decide +kernel
theorem gM189 (xs : List Int32) (fv : Value) : mOk (gP xs fv) gTs gXt 189 mI189 := ckM_ok kM189 dk189 rfl (fun _ => rfl) rfl rfl kE13 kL13
set_option maxRecDepth 100000 in
theorem kM190 : ckM 190 mI190 [1682, 115] = true := by decide +kernel
theorem gM190 (xs : List Int32) (fv : Value) : mOk (gP xs fv) gTs gXt 190 mI190 := ckM_ok kM190 dk190 rfl (fun _ => rfl) rfl rfl kE13 kL13
set_option maxRecDepth 100000 in
theorem kM191 : ckM 191 mI191 [1616, 115] = true := by decide +kernel
theorem gM191 (xs : List Int32) (fv : Value) : mOk (gP xs fv) gTs gXt 191 mI191 := ckM_ok kM191 dk191 rfl (fun _ => rfl) rfl rfl kE13 kL13
set_option maxRecDepth 100000 in
theorem kM192 : ckM 192 mI192 [1745, 115] = true := by decide +kernel
theorem gM192 (xs : List Int32) (fv : Value) : mOk (gP xs fv) gTs gXt 192 mI192 := ckM_ok kM192 dk192 rfl (fun _ => rfl) rfl rfl kE13 kL13
set_option maxRecDepth 100000 in
theorem kM193 : ckM 193 mI193 [1742, 115] = true := by decide +kernel
theorem gM193 (xs : List Int32) (fv : Value) : mOk (gP xs fv) gTs gXt 193 mI193 := ckM_ok kM193 dk193 rfl (fun _ => rfl) rfl rfl kE13 kL13
set_option maxRecDepth 100000 in
theorem kM194 : ckM 194 mI194 [1739, 115] = true := by decide +kernel
theorem gM194 (xs : List Int32) (fv : Value) : mOk (gP xs fv) gTs gXt 194 mI194 := ckM_ok kM194 dk194 rfl (fun _ => rfl) rfl rfl kE13 kL13
set_option maxRecDepth 100000 in
theorem kM195 : ckM 195 mI195 [1735, 115] = true := by decide +kernel
theorem gM195 (xs : List Int32) (fv : Value) : mOk (gP xs fv) gTs gXt 195 mI195 := ckM_ok kM195 dk195 rfl (fun _ => rfl) rfl rfl kE13 kL13
set_option maxRecDepth 100000 in
theorem kM196 : ckM 196 mI196 [1598, 115] = true := by decide +kernel
theorem gM196 (xs : List Int32) (fv : Value) : mOk (gP xs fv) gTs gXt 196 mI196 := ckM_ok kM196 dk196 rfl (fun _ => rfl) rfl rfl kE13 kL13
set_option maxRecDepth 100000 in
theorem kM197 : ckM 197 mI197 [1585, 115] = true := by decide +kernel
theorem gM197 (xs : List Int32) (fv : Value) : mOk (gP xs fv) gTs gXt 197 mI197 := ckM_ok kM197 dk197 rfl (fun _ => rfl) rfl rfl kE13 kL13
set_option maxRecDepth 100000 in
theorem kM198 : ckM 198 mI198 [1591, 115] = true := by decide +kernel
theorem gM198 (xs : List Int32) (fv : Value) : mOk (gP xs fv) gTs gXt 198 mI198 := ckM_ok kM198 dk198 rfl (fun _ => rfl) rfl rfl kE13 kL13
set_option maxRecDepth 100000 in
theorem kM199 : ckM 199 mI199 [1594, 115] = true := by decide +kernel
theorem gM199 (xs : List Int32) (fv : Value) : mOk (gP xs fv) gTs gXt 199 mI199 := ckM_ok kM199 dk199 rfl (fun _ => rfl) rfl rfl kE13 kL13
set_option maxRecDepth 100000 in
theorem kM200 : ckM 200 mI200 [1566, 115] = true := by decide +kernel
theorem gM200 (xs : List Int32) (fv : Value) : mOk (gP xs fv) gTs gXt 200 mI200 := ckM_ok kM200 dk200 rfl (fun _ => rfl) rfl rfl kE13 kL13
set_option maxRecDepth 100000 in
theorem kM201 : ckM 201 mI201 [1582, 115] = true := by decide +kernel
theorem gM201 (xs : List Int32) (fv : Value) : mOk (gP xs fv) gTs gXt 201 mI201 := ckM_ok kM201 dk201 rfl (fun _ => rfl) rfl rfl kE13 kL13
set_option maxRecDepth 100000 in
theorem kM202 : ckM 202 mI202 [1578, 115] = true := by decide +kernel
theorem gM202 (xs : List Int32) (fv : Value) : mOk (gP xs fv) gTs gXt 202 mI202 := ckM_ok kM202 dk202 rfl (fun _ => rfl) rfl rfl kE13 kL13
set_option maxRecDepth 100000 in
theorem kM203 : ckM 203 mI203 [1612, 115] = true := by decide +kernel
theorem gM203 (xs : List Int32) (fv : Value) : mOk (gP xs fv) gTs gXt 203 mI203 := ckM_ok kM203 dk203 rfl (fun _ => rfl) rfl rfl kE13 kL13
set_option maxRecDepth 100000 in
theorem kM204 : ckM 204 mI204 [1563, 115] = true := by decide +kernel
theorem gM204 (xs : List Int32) (fv : Value) : mOk (gP xs fv) gTs gXt 204 mI204 := ckM_ok kM204 dk204 rfl (fun _ => rfl) rfl rfl kE13 kL13
set_option maxRecDepth 100000 in
theorem kM205 : ckM 205 mI205 [1559, 115] = true := by decide +kernel
theorem gM205 (xs : List Int32) (fv : Value) : mOk (gP xs fv) gTs gXt 205 mI205 := ckM_ok kM205 dk205 rfl (fun _ => rfl) rfl rfl kE13 kL13
set_option maxRecDepth 100000 in
theorem kM206 : ckM 206 mI206 [1694, 115] = true := by decide +kernel
theorem gM206 (xs : List Int32) (fv : Value) : mOk (gP xs fv) gTs gXt 206 mI206 := ckM_ok kM206 dk206 rfl (fun _ => rfl) rfl rfl kE13 kL13
set_option maxRecDepth 100000 in
theorem kM207 : ckM 207 mI207 [1690, 115] = true := by decide +kernel
theorem gM207 (xs : List Int32) (fv : Value) : mOk (gP xs fv) gTs gXt 207 mI207 := ckM_ok kM207 dk207 rfl (fun _ => rfl) rfl rfl kE13 kL13
set_option maxRecDepth 100000 in
theorem kM208 : ckM 208 mI208 [1686, 115] = true := by decide +kernel
theorem gM208 (xs : List Int32) (fv : Value) : mOk (gP xs fv) gTs gXt 208 mI208 := ckM_ok kM208 dk208 rfl (fun _ => rfl) rfl rfl kE13 kL13
set_option maxRecDepth 100000 in
theorem kM209 : ckM 209 mI209 [1698, 115] = true := by decide +kernel
theorem gM209 (xs : List Int32) (fv : Value) : mOk (gP xs fv) gTs gXt 209 mI209 := ckM_ok kM209 dk209 rfl (fun _ => rfl) rfl rfl kE13 kL13
set_option maxRecDepth 100000 in
theorem kM210 : ckM 210 mI210 [1714, 115] = true := by decide +kernel
theorem gM210 (xs : List Int32) (fv : Value) : mOk (gP xs fv) gTs gXt 210 mI210 := ckM_ok kM210 dk210 rfl (fun _ => rfl) rfl rfl kE13 kL13
set_option maxRecDepth 100000 in
theorem kM211 : ckM 211 mI211 [1722, 115] = true := by decide +kernel
theorem gM211 (xs : List Int32) (fv : Value) : mOk (gP xs fv) gTs gXt 211 mI211 := ckM_ok kM211 dk211 rfl (fun _ => rfl) rfl rfl kE13 kL13
set_option maxRecDepth 100000 in
theorem kM212 : ckM 212 mI212 [1710, 115] = true := by decide +kernel
theorem gM212 (xs : List Int32) (fv : Value) : mOk (gP xs fv) gTs gXt 212 mI212 := ckM_ok kM212 dk212 rfl (fun _ => rfl) rfl rfl kE13 kL13
set_option maxRecDepth 100000 in
theorem kM213 : ckM 213 mI213 [1726, 115] = true := by decide +kernel
theorem gM213 (xs : List Int32) (fv : Value) : mOk (gP xs fv) gTs gXt 213 mI213 := ckM_ok kM213 dk213 rfl (fun _ => rfl) rfl rfl kE13 kL13
set_option maxRecDepth 100000 in
theorem kM214 : ckM 214 mI214 [1906, 115] = true := by decide +kernel
theorem gM214 (xs : List Int32) (fv : Value) : mOk (gP xs fv) gTs gXt 214 mI214 := ckM_ok kM214 dk214 rfl (fun _ => rfl) rfl rfl kE13 kL13
set_option maxRecDepth 100000 in
theorem kM215 : ckM 215 mI215 [1730, 115] = true := by decide +kernel
theorem gM215 (xs : List Int32) (fv : Value) : mOk (gP xs fv) gTs gXt 215 mI215 := ckM_ok kM215 dk215 rfl (fun _ => rfl) rfl rfl kE13 kL13
set_option maxRecDepth 100000 in
theorem kM216 : ckM 216 mI216 [1799, 115] = true := by decide +kernel
theorem gM216 (xs : List Int32) (fv : Value) : mOk (gP xs fv) gTs gXt 216 mI216 := ckM_ok kM216 dk216 rfl (fun _ => rfl) rfl rfl kE13 kL13
set_option maxRecDepth 100000 in
theorem kM217 : ckM 217 mI217 [1807, 115] = true := by decide +kernel
theorem gM217 (xs : List Int32) (fv : Value) : mOk (gP xs fv) gTs gXt 217 mI217 := ckM_ok kM217 dk217 rfl (fun _ => rfl) rfl rfl kE13 kL13
set_option maxRecDepth 100000 in
theorem kM218 : ckM 218 mI218 [1811, 115] = true := by decide +kernel
theorem gM218 (xs : List Int32) (fv : Value) : mOk (gP xs fv) gTs gXt 218 mI218 := ckM_ok kM218 dk218 rfl (fun _ => rfl) rfl rfl kE13 kL13
set_option maxRecDepth 100000 in
theorem kM219 : ckM 219 mI219 [1803, 115] = true := by decide +kernel
theorem gM219 (xs : List Int32) (fv : Value) : mOk (gP xs fv) gTs gXt 219 mI219 := ckM_ok kM219 dk219 rfl (fun _ => rfl) rfl rfl kE13 kL13
set_option maxRecDepth 100000 in
theorem kM220 : ckM 220 mI220 [1819, 115] = true := by decide +kernel
theorem gM220 (xs : List Int32) (fv : Value) : mOk (gP xs fv) gTs gXt 220 mI220 := ckM_ok kM220 dk220 rfl (fun _ => rfl) rfl rfl kE13 kL13
set_option maxRecDepth 100000 in
theorem kM221 : ckM 221 mI221 [1870, 115] = true := by decide +kernel
theorem gM221 (xs : List Int32) (fv : Value) : mOk (gP xs fv) gTs gXt 221 mI221 := ckM_ok kM221 dk221 rfl (fun _ => rfl) rfl rfl kE13 kL13
set_option maxRecDepth 100000 in
theorem kM222 : ckM 222 mI222 [1795, 115] = true := by decide +kernel
theorem gM222 (xs : List Int32) (fv : Value) : mOk (gP xs fv) gTs gXt 222 mI222 := ckM_ok kM222 dk222 rfl (fun _ => rfl) rfl rfl kE13 kL13
set_option maxRecDepth 100000 in
theorem kM223 : ckM 223 mI223 [1878, 115] = true := by decide +kernel
theorem gM223 (xs : List Int32) (fv : Value) : mOk (gP xs fv) gTs gXt 223 mI223 := ckM_ok kM223 dk223 rfl (fun _ => rfl) rfl rfl kE13 kL13
set_option maxRecDepth 100000 in
theorem kM224 : ckM 224 mI224 [1702, 115] = true := by decide +kernel
theorem gM224 (xs : List Int32) (fv : Value) : mOk (gP xs fv) gTs gXt 224 mI224 := ckM_ok kM224 dk224 rfl (fun _ => rfl) rfl rfl kE13 kL13
set_option maxRecDepth 100000 in
theorem kM225 : ckM 225 mI225 [1706, 115] = true := by decide +kernel
theorem gM225 (xs : List Int32) (fv : Value) : mOk (gP xs fv) gTs gXt 225 mI225 := ckM_ok kM225 dk225 rfl (fun _ => rfl) rfl rfl kE13 kL13
set_option maxRecDepth 100000 in
theorem kM226 : ckM 226 mI226 [1718, 115] = true := by decide +kernel
theorem gM226 (xs : List Int32) (fv : Value) : mOk (gP xs fv) gTs gXt 226 mI226 := ckM_ok kM226 dk226 rfl (fun _ => rfl) rfl rfl kE13 kL13
set_option maxRecDepth 100000 in
theorem kM227 : ckM 227 mI227 [1759, 115] = true := by decide +kernel
theorem gM227 (xs : List Int32) (fv : Value) : mOk (gP xs fv) gTs gXt 227 mI227 := ckM_ok kM227 dk227 rfl (fun _ => rfl) rfl rfl kE13 kL13
set_option maxRecDepth 100000 in
theorem kM228 : ckM 228 mI228 [1771, 115] = true := by decide +kernel
theorem gM228 (xs : List Int32) (fv : Value) : mOk (gP xs fv) gTs gXt 228 mI228 := ckM_ok kM228 dk228 rfl (fun _ => rfl) rfl rfl kE13 kL13
set_option maxRecDepth 100000 in
theorem kM229 : ckM 229 mI229 [1767, 115] = true := by decide +kernel
theorem gM229 (xs : List Int32) (fv : Value) : mOk (gP xs fv) gTs gXt 229 mI229 := ckM_ok kM229 dk229 rfl (fun _ => rfl) rfl rfl kE13 kL13
set_option maxRecDepth 100000 in
theorem kM230 : ckM 230 mI230 [1763, 115] = true := by decide +kernel
theorem gM230 (xs : List Int32) (fv : Value) : mOk (gP xs fv) gTs gXt 230 mI230 := ckM_ok kM230 dk230 rfl (fun _ => rfl) rfl rfl kE13 kL13
set_option maxRecDepth 100000 in
theorem kM231 : ckM 231 mI231 [1779, 115] = true := by decide +kernel
theorem gM231 (xs : List Int32) (fv : Value) : mOk (gP xs fv) gTs gXt 231 mI231 := ckM_ok kM231 dk231 rfl (fun _ => rfl) rfl rfl kE13 kL13
set_option maxRecDepth 100000 in
theorem kM232 : ckM 232 mI232 [1775, 115] = true := by decide +kernel
theorem gM232 (xs : List Int32) (fv : Value) : mOk (gP xs fv) gTs gXt 232 mI232 := ckM_ok kM232 dk232 rfl (fun _ => rfl) rfl rfl kE13 kL13
set_option maxRecDepth 100000 in
theorem kM233 : ckM 233 mI233 [1783, 115] = true := by decide +kernel
theorem gM233 (xs : List Int32) (fv : Value) : mOk (gP xs fv) gTs gXt 233 mI233 := ckM_ok kM233 dk233 rfl (fun _ => rfl) rfl rfl kE13 kL13
set_option maxRecDepth 100000 in
theorem kM234 : ckM 234 mI234 [1787, 115] = true := by decide +kernel
theorem gM234 (xs : List Int32) (fv : Value) : mOk (gP xs fv) gTs gXt 234 mI234 := ckM_ok kM234 dk234 rfl (fun _ => rfl) rfl rfl kE13 kL13
set_option maxRecDepth 100000 in
theorem kM235 : ckM 235 mI235 [1791, 115] = true := by decide +kernel
theorem gM235 (xs : List Int32) (fv : Value) : mOk (gP xs fv) gTs gXt 235 mI235 := ckM_ok kM235 dk235 rfl (fun _ => rfl) rfl rfl kE13 kL13
set_option maxRecDepth 100000 in
theorem kM236 : ckM 236 mI236 [1823, 115] = true := by decide +kernel
theorem gM236 (xs : List Int32) (fv : Value) : mOk (gP xs fv) gTs gXt 236 mI236 := ckM_ok kM236 dk236 rfl (fun _ => rfl) rfl rfl kE13 kL13
set_option maxRecDepth 100000 in
theorem kM237 : ckM 237 mI237 [1815, 115] = true := by decide +kernel
theorem gM237 (xs : List Int32) (fv : Value) : mOk (gP xs fv) gTs gXt 237 mI237 := ckM_ok kM237 dk237 rfl (fun _ => rfl) rfl rfl kE13 kL13
set_option maxRecDepth 100000 in
theorem kM238 : ckM 238 mI238 [1827, 115] = true := by decide +kernel
theorem gM238 (xs : List Int32) (fv : Value) : mOk (gP xs fv) gTs gXt 238 mI238 := ckM_ok kM238 dk238 rfl (fun _ => rfl) rfl rfl kE13 kL13
set_option maxRecDepth 100000 in
theorem kM239 : ckM 239 mI239 [1839, 115] = true := by decide +kernel
theorem gM239 (xs : List Int32) (fv : Value) : mOk (gP xs fv) gTs gXt 239 mI239 := ckM_ok kM239 dk239 rfl (fun _ => rfl) rfl rfl kE13 kL13
set_option maxRecDepth 100000 in
theorem kM240 : ckM 240 mI240 [1835, 115] = true := by decide +kernel
theorem gM240 (xs : List Int32) (fv : Value) : mOk (gP xs fv) gTs gXt 240 mI240 := ckM_ok kM240 dk240 rfl (fun _ => rfl) rfl rfl kE13 kL13
set_option maxRecDepth 100000 in
theorem kM241 : ckM 241 mI241 [1831, 115] = true := by decide +kernel
theorem gM241 (xs : List Int32) (fv : Value) : mOk (gP xs fv) gTs gXt 241 mI241 := ckM_ok kM241 dk241 rfl (fun _ => rfl) rfl rfl kE13 kL13
set_option maxRecDepth 100000 in
theorem kM242 : ckM 242 mI242 [1845, 115] = true := by decide +kernel
theorem gM242 (xs : List Int32) (fv : Value) : mOk (gP xs fv) gTs gXt 242 mI242 := ckM_ok kM242 dk242 rfl (fun _ => rfl) rfl rfl kE13 kL13
set_option maxRecDepth 100000 in
theorem kM243 : ckM 243 mI243 [1849, 115] = true := by decide +kernel
theorem gM243 (xs : List Int32) (fv : Value) : mOk (gP xs fv) gTs gXt 243 mI243 := ckM_ok kM243 dk243 rfl (fun _ => rfl) rfl rfl kE13 kL13
set_option maxRecDepth 100000 in
theorem kM244 : ckM 244 mI244 [1853, 115] = true := by decide +kernel
theorem gM244 (xs : List Int32) (fv : Value) : mOk (gP xs fv) gTs gXt 244 mI244 := ckM_ok kM244 dk244 rfl (fun _ => rfl) rfl rfl kE13 kL13
set_option maxRecDepth 100000 in
theorem kM245 : ckM 245 mI245 [1862, 115] = true := by decide +kernel
theorem gM245 (xs : List Int32) (fv : Value) : mOk (gP xs fv) gTs gXt 245 mI245 := ckM_ok kM245 dk245 rfl (fun _ => rfl) rfl rfl kE13 kL13
set_option maxRecDepth 100000 in
theorem kM246 : ckM 246 mI246 [1874, 115] = true := by decide +kernel
theorem gM246 (xs : List Int32) (fv : Value) : mOk (gP xs fv) gTs gXt 246 mI246 := ckM_ok kM246 dk246 rfl (fun _ => rfl) rfl rfl kE13 kL13
set_option maxRecDepth 100000 in
theorem kM247 : ckM 247 mI247 [1866, 115] = true := by decide +kernel
theorem gM247 (xs : List Int32) (fv : Value) : mOk (gP xs fv) gTs gXt 247 mI247 := ckM_ok kM247 dk247 rfl (fun _ => rfl) rfl rfl kE13 kL13
set_option maxRecDepth 100000 in
theorem kM248 : ckM 248 mI248 [1858, 115] = true := by decide +kernel
theorem gM248 (xs : List Int32) (fv : Value) : mOk (gP xs fv) gTs gXt 248 mI248 := ckM_ok kM248 dk248 rfl (fun _ => rfl) rfl rfl kE13 kL13
set_option maxRecDepth 100000 in
theorem kM249 : ckM 249 mI249 [1882, 115] = true := by decide +kernel
theorem gM249 (xs : List Int32) (fv : Value) : mOk (gP xs fv) gTs gXt 249 mI249 := ckM_ok kM249 dk249 rfl (fun _ => rfl) rfl rfl kE13 kL13
set_option maxRecDepth 100000 in
theorem kM250 : ckM 250 mI250 [1898, 115] = true := by decide +kernel
theorem gM250 (xs : List Int32) (fv : Value) : mOk (gP xs fv) gTs gXt 250 mI250 := ckM_ok kM250 dk250 rfl (fun _ => rfl) rfl rfl kE13 kL13
set_option maxRecDepth 100000 in
theorem kM251 : ckM 251 mI251 [1894, 115] = true := by decide +kernel
theorem gM251 (xs : List Int32) (fv : Value) : mOk (gP xs fv) gTs gXt 251 mI251 := ckM_ok kM251 dk251 rfl (fun _ => rfl) rfl rfl kE13 kL13
set_option maxRecDepth 100000 in
theorem kM252 : ckM 252 mI252 [1890, 115] = true := by decide +kernel
theorem gM252 (xs : List Int32) (fv : Value) : mOk (gP xs fv) gTs gXt 252 mI252 := ckM_ok kM252 dk252 rfl (fun _ => rfl) rfl rfl kE13 kL13
set_option maxRecDepth 100000 in
theorem kM253 : ckM 253 mI253 [1886, 115] = true := by decide +kernel
theorem gM253 (xs : List Int32) (fv : Value) : mOk (gP xs fv) gTs gXt 253 mI253 := ckM_ok kM253 dk253 rfl (fun _ => rfl) rfl rfl kE13 kL13
set_option maxRecDepth 100000 in
theorem kM254 : ckM 254 mI254 [1910, 115] = true := by decide +kernel
theorem gM254 (xs : List Int32) (fv : Value) : mOk (gP xs fv) gTs gXt 254 mI254 := ckM_ok kM254 dk254 rfl (fun _ => rfl) rfl rfl kE13 kL13
set_option maxRecDepth 100000 in
theorem kM255 : ckM 255 mI255 [1902, 115] = true := by decide +kernel
theorem gM255 (xs : List Int32) (fv : Value) : mOk (gP xs fv) gTs gXt 255 mI255 := ckM_ok kM255 dk255 rfl (fun _ => rfl) rfl rfl kE13 kL13
set_option maxRecDepth 100000 in
theorem kM256 : ckM 256 mI256 [1918, 115] = true := by decide +kernel
theorem gM256 (xs : List Int32) (fv : Value) : mOk (gP xs fv) gTs gXt 256 mI256 := ckM_ok kM256 dk256 rfl (fun _ => rfl) rfl rfl kE13 kL13
set_option maxRecDepth 100000 in
theorem kM257 : ckM 257 mI257 [1914, 115] = true := by decide +kernel
theorem gM257 (xs : List Int32) (fv : Value) : mOk (gP xs fv) gTs gXt 257 mI257 := ckM_ok kM257 dk257 rfl (fun _ => rfl) rfl rfl kE13 kL13
set_option maxRecDepth 100000 in
theorem kM258 : ckM 258 mI258 [1930, 115] = true := by decide +kernel
theorem gM258 (xs : List Int32) (fv : Value) : mOk (gP xs fv) gTs gXt 258 mI258 := ckM_ok kM258 dk258 rfl (fun _ => rfl) rfl rfl kE13 kL13
set_option maxRecDepth 100000 in
theorem kM259 : ckM 259 mI259 [1926, 115] = true := by decide +kernel
theorem gM259 (xs : List Int32) (fv : Value) : mOk (gP xs fv) gTs gXt 259 mI259 := ckM_ok kM259 dk259 rfl (fun _ => rfl) rfl rfl kE13 kL13
set_option maxRecDepth 100000 in
theorem kM260 : ckM 260 mI260 [1922, 115] = true := by decide +kernel
theorem gM260 (xs : List Int32) (fv : Value) : mOk (gP xs fv) gTs gXt 260 mI260 := ckM_ok kM260 dk260 rfl (fun _ => rfl) rfl rfl kE13 kL13
set_option maxRecDepth 100000 in
theorem kM261 : ckM 261 mI261 [1938, 115] = true := by decide +kernel
theorem gM261 (xs : List Int32) (fv : Value) : mOk (gP xs fv) gTs gXt 261 mI261 := ckM_ok kM261 dk261 rfl (fun _ => rfl) rfl rfl kE13 kL13
set_option maxRecDepth 100000 in
theorem kM262 : ckM 262 mI262 [1934, 115] = true := by decide +kernel
theorem gM262 (xs : List Int32) (fv : Value) : mOk (gP xs fv) gTs gXt 262 mI262 := ckM_ok kM262 dk262 rfl (fun _ => rfl) rfl rfl kE13 kL13
set_option maxRecDepth 100000 in
theorem kM263 : ckM 263 mI263 [1942, 115] = true := by decide +kernel
theorem gM263 (xs : List Int32) (fv : Value) : mOk (gP xs fv) gTs gXt 263 mI263 := ckM_ok kM263 dk263 rfl (fun _ => rfl) rfl rfl kE13 kL13
set_option maxRecDepth 100000 in
theorem kM264 : ckM 264 mI264 [1954, 115] = true := by decide +kernel
theorem gM264 (xs : List Int32) (fv : Value) : mOk (gP xs fv) gTs gXt 264 mI264 := ckM_ok kM264 dk264 rfl (fun _ => rfl) rfl rfl kE13 kL13
set_option maxRecDepth 100000 in
theorem kM265 : ckM 265 mI265 [1950, 115] = true := by decide +kernel
theorem gM265 (xs : List Int32) (fv : Value) : mOk (gP xs fv) gTs gXt 265 mI265 := ckM_ok kM265 dk265 rfl (fun _ => rfl) rfl rfl kE13 kL13
set_option maxRecDepth 100000 in
theorem kM266 : ckM 266 mI266 [1946, 115] = true := by decide +kernel
theorem gM266 (xs : List Int32) (fv : Value) : mOk (gP xs fv) gTs gXt 266 mI266 := ckM_ok kM266 dk266 rfl (fun _ => rfl) rfl rfl kE13 kL13
set_option maxRecDepth 100000 in
theorem kM267 : ckM 267 mI267 [1958, 115] = true := by decide +kernel
theorem gM267 (xs : List Int32) (fv : Value) : mOk (gP xs fv) gTs gXt 267 mI267 := ckM_ok kM267 dk267 rfl (fun _ => rfl) rfl rfl kE13 kL13
set_option maxRecDepth 100000 in
theorem kM268 : ckM 268 mI268 [1962, 115] = true := by decide +kernel
theorem gM268 (xs : List Int32) (fv : Value) : mOk (gP xs fv) gTs gXt 268 mI268 := ckM_ok kM268 dk268 rfl (fun _ => rfl) rfl rfl kE13 kL13
set_option maxRecDepth 100000 in
theorem kM269 : ckM 269 mI269 [1978, 115] = true := by decide +kernel
theorem gM269 (xs : List Int32) (fv : Value) : mOk (gP xs fv) gTs gXt 269 mI269 := ckM_ok kM269 dk269 rfl (fun _ => rfl) rfl rfl kE13 kL13
set_option maxRecDepth 100000 in
theorem kM270 : ckM 270 mI270 [1974, 115] = true := by decide +kernel
theorem gM270 (xs : List Int32) (fv : Value) : mOk (gP xs fv) gTs gXt 270 mI270 := ckM_ok kM270 dk270 rfl (fun _ => rfl) rfl rfl kE13 kL13
set_option maxRecDepth 100000 in
theorem kM271 : ckM 271 mI271 [1982, 115] = true := by decide +kernel
theorem gM271 (xs : List Int32) (fv : Value) : mOk (gP xs fv) gTs gXt 271 mI271 := ckM_ok kM271 dk271 rfl (fun _ => rfl) rfl rfl kE13 kL13
set_option maxRecDepth 100000 in
theorem kM272 : ckM 272 mI272 [1970, 115] = true := by decide +kernel
theorem gM272 (xs : List Int32) (fv : Value) : mOk (gP xs fv) gTs gXt 272 mI272 := ckM_ok kM272 dk272 rfl (fun _ => rfl) rfl rfl kE13 kL13
set_option maxRecDepth 100000 in
theorem kM273 : ckM 273 mI273 [1966, 115] = true := by decide +kernel
theorem gM273 (xs : List Int32) (fv : Value) : mOk (gP xs fv) gTs gXt 273 mI273 := ckM_ok kM273 dk273 rfl (fun _ => rfl) rfl rfl kE13 kL13
set_option maxRecDepth 100000 in
theorem kM274 : ckM 274 mI274 [1991, 115] = true := by decide +kernel
theorem gM274 (xs : List Int32) (fv : Value) : mOk (gP xs fv) gTs gXt 274 mI274 := ckM_ok kM274 dk274 rfl (fun _ => rfl) rfl rfl kE13 kL13
set_option maxRecDepth 100000 in
theorem kM275 : ckM 275 mI275 [1986, 115] = true := by decide +kernel
theorem gM275 (xs : List Int32) (fv : Value) : mOk (gP xs fv) gTs gXt 275 mI275 := ckM_ok kM275 dk275 rfl (fun _ => rfl) rfl rfl kE13 kL13
set_option maxRecDepth 100000 in
theorem kM276 : ckM 276 mI276 [2000, 115] = true := by decide +kernel
theorem gM276 (xs : List Int32) (fv : Value) : mOk (gP xs fv) gTs gXt 276 mI276 := ckM_ok kM276 dk276 rfl (fun _ => rfl) rfl rfl kE13 kL13
set_option maxRecDepth 100000 in
theorem kM277 : ckM 277 mI277 [1995, 115] = true := by decide +kernel
theorem gM277 (xs : List Int32) (fv : Value) : mOk (gP xs fv) gTs gXt 277 mI277 := ckM_ok kM277 dk277 rfl (fun _ => rfl) rfl rfl kE13 kL13
set_option maxRecDepth 100000 in
theorem kM278 : ckM 278 mI278 [2009, 115] = true := by decide +kernel
theorem gM278 (xs : List Int32) (fv : Value) : mOk (gP xs fv) gTs gXt 278 mI278 := ckM_ok kM278 dk278 rfl (fun _ => rfl) rfl rfl kE13 kL13
set_option maxRecDepth 100000 in
theorem kM279 : ckM 279 mI279 [2005, 115] = true := by decide +kernel
theorem gM279 (xs : List Int32) (fv : Value) : mOk (gP xs fv) gTs gXt 279 mI279 := ckM_ok kM279 dk279 rfl (fun _ => rfl) rfl rfl kE13 kL13
set_option maxRecDepth 100000 in
theorem kM280 : ckM 280 mI280 [2013, 115] = true := by decide +kernel
theorem gM280 (xs : List Int32) (fv : Value) : mOk (gP xs fv) gTs gXt 280 mI280 := ckM_ok kM280 dk280 rfl (fun _ => rfl) rfl rfl kE13 kL13
set_option maxRecDepth 100000 in
theorem kM281 : ckM 281 mI281 [2017, 115] = true := by decide +kernel
theorem gM281 (xs : List Int32) (fv : Value) : mOk (gP xs fv) gTs gXt 281 mI281 := ckM_ok kM281 dk281 rfl (fun _ => rfl) rfl rfl kE13 kL13
set_option maxRecDepth 100000 in
theorem kM282 : ckM 282 mI282 [2021, 115] = true := by decide +kernel
theorem gM282 (xs : List Int32) (fv : Value) : mOk (gP xs fv) gTs gXt 282 mI282 := ckM_ok kM282 dk282 rfl (fun _ => rfl) rfl rfl kE13 kL13
set_option maxRecDepth 100000 in
theorem kM283 : ckM 283 mI283 [2025, 115] = true := by decide +kernel
theorem gM283 (xs : List Int32) (fv : Value) : mOk (gP xs fv) gTs gXt 283 mI283 := ckM_ok kM283 dk283 rfl (fun _ => rfl) rfl rfl kE13 kL13
set_option maxRecDepth 100000 in
theorem kM284 : ckM 284 mI284 [2029, 115] = true := by decide +kernel
theorem gM284 (xs : List Int32) (fv : Value) : mOk (gP xs fv) gTs gXt 284 mI284 := ckM_ok kM284 dk284 rfl (fun _ => rfl) rfl rfl kE13 kL13
set_option maxRecDepth 100000 in
theorem kM285 : ckM 285 mI285 [2033, 115] = true := by decide +kernel
theorem gM285 (xs : List Int32) (fv : Value) : mOk (gP xs fv) gTs gXt 285 mI285 := ckM_ok kM285 dk285 rfl (fun _ => rfl) rfl rfl kE13 kL13
set_option maxRecDepth 100000 in
theorem kM286 : ckM 286 mI286 [2037, 115] = true := by decide +kernel
theorem gM286 (xs : List Int32) (fv : Value) : mOk (gP xs fv) gTs gXt 286 mI286 := ckM_ok kM286 dk286 rfl (fun _ => rfl) rfl rfl kE13 kL13
set_option maxRecDepth 100000 in
theorem kM287 : ckM 287 mI287 [1261, 129] = true := by decide +kernel
theorem gM287 (xs : List Int32) (fv : Value) : mOk (gP xs fv) gTs gXt 287 mI287 := ckM_ok kM287 dk287 rfl (fun _ => rfl) rfl rfl kE14 kL14
set_option maxRecDepth 100000 in
theorem kM288 : ckM 288 mI288 [880, 129] = true := by decide +kernel
theorem gM288 (xs : List Int32) (fv : Value) : mOk (gP xs fv) gTs gXt 288 mI288 := ckM_ok kM288 dk288 rfl (fun _ => rfl) rfl rfl kE14 kL14
set_option maxRecDepth 100000 in
theorem kM289 : ckM 289 mI289 [573, 118] = true := by decide +kernel
theorem gM289 (xs : List Int32) (fv : Value) : mOk (gP xs fv) gTs gXt 289 mI289 := ckM_ok kM289 dk289 rfl (fun _ => rfl) rfl rfl kE15 kL15
set_option maxRecDepth 100000 in
theorem kM290 : ckM 290 mI290 [657, 118] = true := by decide +kernel
theorem gM290 (xs : List Int32) (fv : Value) : mOk (gP xs fv) gTs gXt 290 mI290 := ckM_ok kM290 dk290 rfl (fun _ => rfl) rfl rfl kE15 kL15
set_option maxRecDepth 100000 in
theorem kM291 : ckM 291 mI291 [559, 118] = true := by decide +kernel
theorem gM291 (xs : List Int32) (fv : Value) : mOk (gP xs fv) gTs gXt 291 mI291 := ckM_ok kM291 dk291 rfl (fun _ => rfl) rfl rfl kE15 kL15
set_option maxRecDepth 100000 in
theorem kM292 : ckM 292 mI292 [563, 118] = true := by decide +kernel
theorem gM292 (xs : List Int32) (fv : Value) : mOk (gP xs fv) gTs gXt 292 mI292 := ckM_ok kM292 dk292 rfl (fun _ => rfl) rfl rfl kE15 kL15
set_option maxRecDepth 100000 in
theorem kM293 : ckM 293 mI293 [577, 118] = true := by decide +kernel
theorem gM293 (xs : List Int32) (fv : Value) : mOk (gP xs fv) gTs gXt 293 mI293 := ckM_ok kM293 dk293 rfl (fun _ => rfl) rfl rfl kE15 kL15
set_option maxRecDepth 100000 in
theorem kM294 : ckM 294 mI294 [567, 118] = true := by decide +kernel
theorem gM294 (xs : List Int32) (fv : Value) : mOk (gP xs fv) gTs gXt 294 mI294 := ckM_ok kM294 dk294 rfl (fun _ => rfl) rfl rfl kE15 kL15
set_option maxRecDepth 100000 in
theorem kM295 : ckM 295 mI295 [663, 118] = true := by decide +kernel
theorem gM295 (xs : List Int32) (fv : Value) : mOk (gP xs fv) gTs gXt 295 mI295 := ckM_ok kM295 dk295 rfl (fun _ => rfl) rfl rfl kE15 kL15
set_option maxRecDepth 100000 in
theorem kM296 : ckM 296 mI296 [660, 119] = true := by decide +kernel
theorem gM296 (xs : List Int32) (fv : Value) : mOk (gP xs fv) gTs gXt 296 mI296 := ckM_ok kM296 dk296 rfl (fun _ => rfl) rfl rfl kE16 kL16
set_option maxRecDepth 100000 in
theorem kM297 : ckM 297 mI297 [583, 119] = true := by decide +kernel
theorem gM297 (xs : List Int32) (fv : Value) : mOk (gP xs fv) gTs gXt 297 mI297 := ckM_ok kM297 dk297 rfl (fun _ => rfl) rfl rfl kE16 kL16
set_option maxRecDepth 100000 in
theorem kM298 : ckM 298 mI298 [580, 119] = true := by decide +kernel
theorem gM298 (xs : List Int32) (fv : Value) : mOk (gP xs fv) gTs gXt 298 mI298 := ckM_ok kM298 dk298 rfl (fun _ => rfl) rfl rfl kE16 kL16
set_option maxRecDepth 100000 in
theorem kM299 : ckM 299 mI299 [592, 119] = true := by decide +kernel
theorem gM299 (xs : List Int32) (fv : Value) : mOk (gP xs fv) gTs gXt 299 mI299 := ckM_ok kM299 dk299 rfl (fun _ => rfl) rfl rfl kE16 kL16
set_option maxRecDepth 100000 in
theorem kM300 : ckM 300 mI300 [542, 117] = true := by decide +kernel
theorem gM300 (xs : List Int32) (fv : Value) : mOk (gP xs fv) gTs gXt 300 mI300 := ckM_ok kM300 dk300 rfl (fun _ => rfl) rfl rfl kE17 kL17
set_option maxRecDepth 100000 in
theorem kM301 : ckM 301 mI301 [807, 117] = true := by decide +kernel
theorem gM301 (xs : List Int32) (fv : Value) : mOk (gP xs fv) gTs gXt 301 mI301 := ckM_ok kM301 dk301 rfl (fun _ => rfl) rfl rfl kE17 kL17
set_option maxRecDepth 100000 in
theorem kM302 : ckM 302 mI302 [666, 122] = true := by decide +kernel
theorem gM302 (xs : List Int32) (fv : Value) : mOk (gP xs fv) gTs gXt 302 mI302 := ckM_ok kM302 dk302 rfl (fun _ => rfl) rfl rfl kE18 kL18
theorem gN0 (xs : List Int32) (fv : Value) : ∀ (i : Nat) (q : aMI), mB0[i]? = some q → mOk (gP xs fv) gTs gXt (0 + i) q := by
  intro i q h
  match i, h with
  | 0, h => cases h; exact gM0 xs fv
  | 1, h => cases h; exact gM1 xs fv
  | 2, h => cases h; exact gM2 xs fv
  | 3, h => cases h; exact gM3 xs fv
  | 4, h => cases h; exact gM4 xs fv
  | 5, h => cases h; exact gM5 xs fv
  | 6, h => cases h; exact gM6 xs fv
  | 7, h => cases h; exact gM7 xs fv
  | 8, h => cases h; exact gM8 xs fv
  | 9, h => cases h; exact gM9 xs fv
  | 10, h => cases h; exact gM10 xs fv
  | 11, h => cases h; exact gM11 xs fv
  | 12, h => cases h; exact gM12 xs fv
  | 13, h => cases h; exact gM13 xs fv
  | 14, h => cases h; exact gM14 xs fv
  | 15, h => cases h; exact gM15 xs fv
  | i + 16, h => simp [mB0] at h
theorem gN1 (xs : List Int32) (fv : Value) : ∀ (i : Nat) (q : aMI), mB1[i]? = some q → mOk (gP xs fv) gTs gXt (16 + i) q := by
  intro i q h
  match i, h with
  | 0, h => cases h; exact gM16 xs fv
  | 1, h => cases h; exact gM17 xs fv
  | 2, h => cases h; exact gM18 xs fv
  | 3, h => cases h; exact gM19 xs fv
  | 4, h => cases h; exact gM20 xs fv
  | 5, h => cases h; exact gM21 xs fv
  | 6, h => cases h; exact gM22 xs fv
  | 7, h => cases h; exact gM23 xs fv
  | 8, h => cases h; exact gM24 xs fv
  | 9, h => cases h; exact gM25 xs fv
  | 10, h => cases h; exact gM26 xs fv
  | 11, h => cases h; exact gM27 xs fv
  | 12, h => cases h; exact gM28 xs fv
  | 13, h => cases h; exact gM29 xs fv
  | 14, h => cases h; exact gM30 xs fv
  | 15, h => cases h; exact gM31 xs fv
  | i + 16, h => simp [mB1] at h
theorem gN2 (xs : List Int32) (fv : Value) : ∀ (i : Nat) (q : aMI), mB2[i]? = some q → mOk (gP xs fv) gTs gXt (32 + i) q := by
  intro i q h
  match i, h with
  | 0, h => cases h; exact gM32 xs fv
  | 1, h => cases h; exact gM33 xs fv
  | 2, h => cases h; exact gM34 xs fv
  | 3, h => cases h; exact gM35 xs fv
  | 4, h => cases h; exact gM36 xs fv
  | 5, h => cases h; exact gM37 xs fv
  | 6, h => cases h; exact gM38 xs fv
  | 7, h => cases h; exact gM39 xs fv
  | 8, h => cases h; exact gM40 xs fv
  | 9, h => cases h; exact gM41 xs fv
  | 10, h => cases h; exact gM42 xs fv
  | 11, h => cases h; exact gM43 xs fv
  | 12, h => cases h; exact gM44 xs fv
  | 13, h => cases h; exact gM45 xs fv
  | 14, h => cases h; exact gM46 xs fv
  | 15, h => cases h; exact gM47 xs fv
  | i + 16, h => simp [mB2] at h
theorem gN3 (xs : List Int32) (fv : Value) : ∀ (i : Nat) (q : aMI), mB3[i]? = some q → mOk (gP xs fv) gTs gXt (48 + i) q := by
  intro i q h
  match i, h with
  | 0, h => cases h; exact gM48 xs fv
  | 1, h => cases h; exact gM49 xs fv
  | 2, h => cases h; exact gM50 xs fv
  | 3, h => cases h; exact gM51 xs fv
  | 4, h => cases h; exact gM52 xs fv
  | 5, h => cases h; exact gM53 xs fv
  | 6, h => cases h; exact gM54 xs fv
  | 7, h => cases h; exact gM55 xs fv
  | 8, h => cases h; exact gM56 xs fv
  | 9, h => cases h; exact gM57 xs fv
  | 10, h => cases h; exact gM58 xs fv
  | 11, h => cases h; exact gM59 xs fv
  | 12, h => cases h; exact gM60 xs fv
  | 13, h => cases h; exact gM61 xs fv
  | 14, h => cases h; exact gM62 xs fv
  | 15, h => cases h; exact gM63 xs fv
  | i + 16, h => simp [mB3] at h
theorem gN4 (xs : List Int32) (fv : Value) : ∀ (i : Nat) (q : aMI), mB4[i]? = some q → mOk (gP xs fv) gTs gXt (64 + i) q := by
  intro i q h
  match i, h with
  | 0, h => cases h; exact gM64 xs fv
  | 1, h => cases h; exact gM65 xs fv
  | 2, h => cases h; exact gM66 xs fv
  | 3, h => cases h; exact gM67 xs fv
  | 4, h => cases h; exact gM68 xs fv
  | 5, h => cases h; exact gM69 xs fv
  | 6, h => cases h; exact gM70 xs fv
  | 7, h => cases h; exact gM71 xs fv
  | 8, h => cases h; exact gM72 xs fv
  | 9, h => cases h; exact gM73 xs fv
  | 10, h => cases h; exact gM74 xs fv
  | 11, h => cases h; exact gM75 xs fv
  | 12, h => cases h; exact gM76 xs fv
  | 13, h => cases h; exact gM77 xs fv
  | 14, h => cases h; exact gM78 xs fv
  | 15, h => cases h; exact gM79 xs fv
  | i + 16, h => simp [mB4] at h
theorem gN5 (xs : List Int32) (fv : Value) : ∀ (i : Nat) (q : aMI), mB5[i]? = some q → mOk (gP xs fv) gTs gXt (80 + i) q := by
  intro i q h
  match i, h with
  | 0, h => cases h; exact gM80 xs fv
  | 1, h => cases h; exact gM81 xs fv
  | 2, h => cases h; exact gM82 xs fv
  | 3, h => cases h; exact gM83 xs fv
  | 4, h => cases h; exact gM84 xs fv
  | 5, h => cases h; exact gM85 xs fv
  | 6, h => cases h; exact gM86 xs fv
  | 7, h => cases h; exact gM87 xs fv
  | 8, h => cases h; exact gM88 xs fv
  | 9, h => cases h; exact gM89 xs fv
  | 10, h => cases h; exact gM90 xs fv
  | 11, h => cases h; exact gM91 xs fv
  | 12, h => cases h; exact gM92 xs fv
  | 13, h => cases h; exact gM93 xs fv
  | 14, h => cases h; exact gM94 xs fv
  | 15, h => cases h; exact gM95 xs fv
  | i + 16, h => simp [mB5] at h
theorem gN6 (xs : List Int32) (fv : Value) : ∀ (i : Nat) (q : aMI), mB6[i]? = some q → mOk (gP xs fv) gTs gXt (96 + i) q := by
  intro i q h
  match i, h with
  | 0, h => cases h; exact gM96 xs fv
  | 1, h => cases h; exact gM97 xs fv
  | 2, h => cases h; exact gM98 xs fv
  | 3, h => cases h; exact gM99 xs fv
  | 4, h => cases h; exact gM100 xs fv
  | 5, h => cases h; exact gM101 xs fv
  | 6, h => cases h; exact gM102 xs fv
  | 7, h => cases h; exact gM103 xs fv
  | 8, h => cases h; exact gM104 xs fv
  | 9, h => cases h; exact gM105 xs fv
  | 10, h => cases h; exact gM106 xs fv
  | 11, h => cases h; exact gM107 xs fv
  | 12, h => cases h; exact gM108 xs fv
  | 13, h => cases h; exact gM109 xs fv
  | 14, h => cases h; exact gM110 xs fv
  | 15, h => cases h; exact gM111 xs fv
  | i + 16, h => simp [mB6] at h
theorem gN7 (xs : List Int32) (fv : Value) : ∀ (i : Nat) (q : aMI), mB7[i]? = some q → mOk (gP xs fv) gTs gXt (112 + i) q := by
  intro i q h
  match i, h with
  | 0, h => cases h; exact gM112 xs fv
  | 1, h => cases h; exact gM113 xs fv
  | 2, h => cases h; exact gM114 xs fv
  | 3, h => cases h; exact gM115 xs fv
  | 4, h => cases h; exact gM116 xs fv
  | 5, h => cases h; exact gM117 xs fv
  | 6, h => cases h; exact gM118 xs fv
  | 7, h => cases h; exact gM119 xs fv
  | 8, h => cases h; exact gM120 xs fv
  | 9, h => cases h; exact gM121 xs fv
  | 10, h => cases h; exact gM122 xs fv
  | 11, h => cases h; exact gM123 xs fv
  | 12, h => cases h; exact gM124 xs fv
  | 13, h => cases h; exact gM125 xs fv
  | 14, h => cases h; exact gM126 xs fv
  | 15, h => cases h; exact gM127 xs fv
  | i + 16, h => simp [mB7] at h
theorem gN8 (xs : List Int32) (fv : Value) : ∀ (i : Nat) (q : aMI), mB8[i]? = some q → mOk (gP xs fv) gTs gXt (128 + i) q := by
  intro i q h
  match i, h with
  | 0, h => cases h; exact gM128 xs fv
  | 1, h => cases h; exact gM129 xs fv
  | 2, h => cases h; exact gM130 xs fv
  | 3, h => cases h; exact gM131 xs fv
  | 4, h => cases h; exact gM132 xs fv
  | 5, h => cases h; exact gM133 xs fv
  | 6, h => cases h; exact gM134 xs fv
  | 7, h => cases h; exact gM135 xs fv
  | 8, h => cases h; exact gM136 xs fv
  | 9, h => cases h; exact gM137 xs fv
  | 10, h => cases h; exact gM138 xs fv
  | 11, h => cases h; exact gM139 xs fv
  | 12, h => cases h; exact gM140 xs fv
  | 13, h => cases h; exact gM141 xs fv
  | 14, h => cases h; exact gM142 xs fv
  | 15, h => cases h; exact gM143 xs fv
  | i + 16, h => simp [mB8] at h
theorem gN9 (xs : List Int32) (fv : Value) : ∀ (i : Nat) (q : aMI), mB9[i]? = some q → mOk (gP xs fv) gTs gXt (144 + i) q := by
  intro i q h
  match i, h with
  | 0, h => cases h; exact gM144 xs fv
  | 1, h => cases h; exact gM145 xs fv
  | 2, h => cases h; exact gM146 xs fv
  | 3, h => cases h; exact gM147 xs fv
  | 4, h => cases h; exact gM148 xs fv
  | 5, h => cases h; exact gM149 xs fv
  | 6, h => cases h; exact gM150 xs fv
  | 7, h => cases h; exact gM151 xs fv
  | 8, h => cases h; exact gM152 xs fv
  | 9, h => cases h; exact gM153 xs fv
  | 10, h => cases h; exact gM154 xs fv
  | 11, h => cases h; exact gM155 xs fv
  | 12, h => cases h; exact gM156 xs fv
  | 13, h => cases h; exact gM157 xs fv
  | 14, h => cases h; exact gM158 xs fv
  | 15, h => cases h; exact gM159 xs fv
  | i + 16, h => simp [mB9] at h
theorem gN10 (xs : List Int32) (fv : Value) : ∀ (i : Nat) (q : aMI), mB10[i]? = some q → mOk (gP xs fv) gTs gXt (160 + i) q := by
  intro i q h
  match i, h with
  | 0, h => cases h; exact gM160 xs fv
  | 1, h => cases h; exact gM161 xs fv
  | 2, h => cases h; exact gM162 xs fv
  | 3, h => cases h; exact gM163 xs fv
  | 4, h => cases h; exact gM164 xs fv
  | 5, h => cases h; exact gM165 xs fv
  | 6, h => cases h; exact gM166 xs fv
  | 7, h => cases h; exact gM167 xs fv
  | 8, h => cases h; exact gM168 xs fv
  | 9, h => cases h; exact gM169 xs fv
  | 10, h => cases h; exact gM170 xs fv
  | 11, h => cases h; exact gM171 xs fv
  | 12, h => cases h; exact gM172 xs fv
  | 13, h => cases h; exact gM173 xs fv
  | 14, h => cases h; exact gM174 xs fv
  | 15, h => cases h; exact gM175 xs fv
  | i + 16, h => simp [mB10] at h
theorem gN11 (xs : List Int32) (fv : Value) : ∀ (i : Nat) (q : aMI), mB11[i]? = some q → mOk (gP xs fv) gTs gXt (176 + i) q := by
  intro i q h
  match i, h with
  | 0, h => cases h; exact gM176 xs fv
  | 1, h => cases h; exact gM177 xs fv
  | 2, h => cases h; exact gM178 xs fv
  | 3, h => cases h; exact gM179 xs fv
  | 4, h => cases h; exact gM180 xs fv
  | 5, h => cases h; exact gM181 xs fv
  | 6, h => cases h; exact gM182 xs fv
  | 7, h => cases h; exact gM183 xs fv
  | 8, h => cases h; exact gM184 xs fv
  | 9, h => cases h; exact gM185 xs fv
  | 10, h => cases h; exact gM186 xs fv
  | 11, h => cases h; exact gM187 xs fv
  | 12, h => cases h; exact gM188 xs fv
  | 13, h => cases h; exact gM189 xs fv
  | 14, h => cases h; exact gM190 xs fv
  | 15, h => cases h; exact gM191 xs fv
  | i + 16, h => simp [mB11] at h
theorem gN12 (xs : List Int32) (fv : Value) : ∀ (i : Nat) (q : aMI), mB12[i]? = some q → mOk (gP xs fv) gTs gXt (192 + i) q := by
  intro i q h
  match i, h with
  | 0, h => cases h; exact gM192 xs fv
  | 1, h => cases h; exact gM193 xs fv
  | 2, h => cases h; exact gM194 xs fv
  | 3, h => cases h; exact gM195 xs fv
  | 4, h => cases h; exact gM196 xs fv
  | 5, h => cases h; exact gM197 xs fv
  | 6, h => cases h; exact gM198 xs fv
  | 7, h => cases h; exact gM199 xs fv
  | 8, h => cases h; exact gM200 xs fv
  | 9, h => cases h; exact gM201 xs fv
  | 10, h => cases h; exact gM202 xs fv
  | 11, h => cases h; exact gM203 xs fv
  | 12, h => cases h; exact gM204 xs fv
  | 13, h => cases h; exact gM205 xs fv
  | 14, h => cases h; exact gM206 xs fv
  | 15, h => cases h; exact gM207 xs fv
  | i + 16, h => simp [mB12] at h
theorem gN13 (xs : List Int32) (fv : Value) : ∀ (i : Nat) (q : aMI), mB13[i]? = some q → mOk (gP xs fv) gTs gXt (208 + i) q := by
  intro i q h
  match i, h with
  | 0, h => cases h; exact gM208 xs fv
  | 1, h => cases h; exact gM209 xs fv
  | 2, h => cases h; exact gM210 xs fv
  | 3, h => cases h; exact gM211 xs fv
  | 4, h => cases h; exact gM212 xs fv
  | 5, h => cases h; exact gM213 xs fv
  | 6, h => cases h; exact gM214 xs fv
  | 7, h => cases h; exact gM215 xs fv
  | 8, h => cases h; exact gM216 xs fv
  | 9, h => cases h; exact gM217 xs fv
  | 10, h => cases h; exact gM218 xs fv
  | 11, h => cases h; exact gM219 xs fv
  | 12, h => cases h; exact gM220 xs fv
  | 13, h => cases h; exact gM221 xs fv
  | 14, h => cases h; exact gM222 xs fv
  | 15, h => cases h; exact gM223 xs fv
  | i + 16, h => simp [mB13] at h
theorem gN14 (xs : List Int32) (fv : Value) : ∀ (i : Nat) (q : aMI), mB14[i]? = some q → mOk (gP xs fv) gTs gXt (224 + i) q := by
  intro i q h
  match i, h with
  | 0, h => cases h; exact gM224 xs fv
  | 1, h => cases h; exact gM225 xs fv
  | 2, h => cases h; exact gM226 xs fv
  | 3, h => cases h; exact gM227 xs fv
  | 4, h => cases h; exact gM228 xs fv
  | 5, h => cases h; exact gM229 xs fv
  | 6, h => cases h; exact gM230 xs fv
  | 7, h => cases h; exact gM231 xs fv
  | 8, h => cases h; exact gM232 xs fv
  | 9, h => cases h; exact gM233 xs fv
  | 10, h => cases h; exact gM234 xs fv
  | 11, h => cases h; exact gM235 xs fv
  | 12, h => cases h; exact gM236 xs fv
  | 13, h => cases h; exact gM237 xs fv
  | 14, h => cases h; exact gM238 xs fv
  | 15, h => cases h; exact gM239 xs fv
  | i + 16, h => simp [mB14] at h
theorem gN15 (xs : List Int32) (fv : Value) : ∀ (i : Nat) (q : aMI), mB15[i]? = some q → mOk (gP xs fv) gTs gXt (240 + i) q := by
  intro i q h
  match i, h with
  | 0, h => cases h; exact gM240 xs fv
  | 1, h => cases h; exact gM241 xs fv
  | 2, h => cases h; exact gM242 xs fv
  | 3, h => cases h; exact gM243 xs fv
  | 4, h => cases h; exact gM244 xs fv
  | 5, h => cases h; exact gM245 xs fv
  | 6, h => cases h; exact gM246 xs fv
  | 7, h => cases h; exact gM247 xs fv
  | 8, h => cases h; exact gM248 xs fv
  | 9, h => cases h; exact gM249 xs fv
  | 10, h => cases h; exact gM250 xs fv
  | 11, h => cases h; exact gM251 xs fv
  | 12, h => cases h; exact gM252 xs fv
  | 13, h => cases h; exact gM253 xs fv
  | 14, h => cases h; exact gM254 xs fv
  | 15, h => cases h; exact gM255 xs fv
  | i + 16, h => simp [mB15] at h
theorem gN16 (xs : List Int32) (fv : Value) : ∀ (i : Nat) (q : aMI), mB16[i]? = some q → mOk (gP xs fv) gTs gXt (256 + i) q := by
  intro i q h
  match i, h with
  | 0, h => cases h; exact gM256 xs fv
  | 1, h => cases h; exact gM257 xs fv
  | 2, h => cases h; exact gM258 xs fv
  | 3, h => cases h; exact gM259 xs fv
  | 4, h => cases h; exact gM260 xs fv
  | 5, h => cases h; exact gM261 xs fv
  | 6, h => cases h; exact gM262 xs fv
  | 7, h => cases h; exact gM263 xs fv
  | 8, h => cases h; exact gM264 xs fv
  | 9, h => cases h; exact gM265 xs fv
  | 10, h => cases h; exact gM266 xs fv
  | 11, h => cases h; exact gM267 xs fv
  | 12, h => cases h; exact gM268 xs fv
  | 13, h => cases h; exact gM269 xs fv
  | 14, h => cases h; exact gM270 xs fv
  | 15, h => cases h; exact gM271 xs fv
  | i + 16, h => simp [mB16] at h
theorem gN17 (xs : List Int32) (fv : Value) : ∀ (i : Nat) (q : aMI), mB17[i]? = some q → mOk (gP xs fv) gTs gXt (272 + i) q := by
  intro i q h
  match i, h with
  | 0, h => cases h; exact gM272 xs fv
  | 1, h => cases h; exact gM273 xs fv
  | 2, h => cases h; exact gM274 xs fv
  | 3, h => cases h; exact gM275 xs fv
  | 4, h => cases h; exact gM276 xs fv
  | 5, h => cases h; exact gM277 xs fv
  | 6, h => cases h; exact gM278 xs fv
  | 7, h => cases h; exact gM279 xs fv
  | 8, h => cases h; exact gM280 xs fv
  | 9, h => cases h; exact gM281 xs fv
  | 10, h => cases h; exact gM282 xs fv
  | 11, h => cases h; exact gM283 xs fv
  | 12, h => cases h; exact gM284 xs fv
  | 13, h => cases h; exact gM285 xs fv
  | 14, h => cases h; exact gM286 xs fv
  | 15, h => cases h; exact gM287 xs fv
  | i + 16, h => simp [mB17] at h
theorem gN18 (xs : List Int32) (fv : Value) : ∀ (i : Nat) (q : aMI), mB18[i]? = some q → mOk (gP xs fv) gTs gXt (288 + i) q := by
  intro i q h
  match i, h with
  | 0, h => cases h; exact gM288 xs fv
  | 1, h => cases h; exact gM289 xs fv
  | 2, h => cases h; exact gM290 xs fv
  | 3, h => cases h; exact gM291 xs fv
  | 4, h => cases h; exact gM292 xs fv
  | 5, h => cases h; exact gM293 xs fv
  | 6, h => cases h; exact gM294 xs fv
  | 7, h => cases h; exact gM295 xs fv
  | 8, h => cases h; exact gM296 xs fv
  | 9, h => cases h; exact gM297 xs fv
  | 10, h => cases h; exact gM298 xs fv
  | 11, h => cases h; exact gM299 xs fv
  | 12, h => cases h; exact gM300 xs fv
  | 13, h => cases h; exact gM301 xs fv
  | 14, h => cases h; exact gM302 xs fv
  | i + 15, h => simp [mB18] at h
