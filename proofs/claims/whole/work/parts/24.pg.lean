/-! ===== the program keeps to the tables ===== -/
theorem gNs (xs : List Int32) (fv : Value) : ∀ (j : Nat) (b : List aMI), mBs[j]? = some b → ∀ (i : Nat) (q : aMI), b[i]? = some q → mOk (gP xs fv) gTs gXt (16 * j + i) q := by
  intro j b h
  match j, h with
  | 0, h => cases h; exact gN0 xs fv
  | 1, h => cases h; exact gN1 xs fv
  | 2, h => cases h; exact gN2 xs fv
  | 3, h => cases h; exact gN3 xs fv
  | 4, h => cases h; exact gN4 xs fv
  | 5, h => cases h; exact gN5 xs fv
  | 6, h => cases h; exact gN6 xs fv
  | 7, h => cases h; exact gN7 xs fv
  | 8, h => cases h; exact gN8 xs fv
  | 9, h => cases h; exact gN9 xs fv
  | 10, h => cases h; exact gN10 xs fv
  | 11, h => cases h; exact gN11 xs fv
  | 12, h => cases h; exact gN12 xs fv
  | 13, h => cases h; exact gN13 xs fv
  | 14, h => cases h; exact gN14 xs fv
  | 15, h => cases h; exact gN15 xs fv
  | 16, h => cases h; exact gN16 xs fv
  | 17, h => cases h; exact gN17 xs fv
  | 18, h => cases h; exact gN18 xs fv
  | j + 19, h => simp [mBs] at h
theorem gMs (xs : List Int32) (fv : Value) (k : Nat) (q : aMI) (h : gI k = some q) : mOk (gP xs fv) gTs gXt k q := by
  unfold gI at h
  split at h
  next b hb =>
    have h1 := gNs xs fv _ b hb _ q h
    rwa [Nat.div_add_mod] at h1
  next => cases h
theorem gCl : clOk vwCl gTs gTy := by
  intro ci C T N h
  match ci, h with
  | 0, h => cases h; exact ⟨gIn0, tyX0_ok, nmX0⟩
  | 1, h => cases h; exact ⟨gIn1, tyX1_ok, nmX1⟩
  | 2, h => cases h; exact ⟨gIn2, tyX2_ok, nmX2⟩
  | 3, h => cases h; exact ⟨gIn3, tyX3_ok, nmX3⟩
  | 4, h => cases h; exact ⟨gIn4, tyX4_ok, nmX4⟩
  | 5, h => cases h; exact ⟨gIn5, tyX5_ok, nmX5⟩
  | 6, h => cases h; exact ⟨gIn6, tyX6_ok, nmX6⟩
  | 7, h => cases h; exact ⟨gIn7, tyX7_ok, nmX7⟩
  | 8, h => cases h; exact ⟨gIn8, tyX8_ok, nmX8⟩
  | 9, h => cases h; exact ⟨gIn9, tyX9_ok, nmX9⟩
  | 10, h => cases h; exact ⟨gIn10, tyX10_ok, nmX10⟩
  | 11, h => cases h; exact ⟨gIn11, tyX11_ok, nmX11⟩
  | 12, h => cases h; exact ⟨gIn12, tyX12_ok, nmX12⟩
  | ci + 13, h => simp [vwCl] at h
set_option maxRecDepth 100000 in
theorem gDl : dfOk vwCl gTy gDf := by
  intro ci fs h
  match ci, h with
  | 0, h => cases h; exact ⟨RX0, TX0, 7, rfl, rfl, by decide +kernel, fun _ => rfl⟩
  | 1, h => cases h; exact ⟨RX1, TX1, 4, rfl, rfl, by decide +kernel, fun _ => rfl⟩
  | 2, h => cases h; exact ⟨RX2, TX2, 2, rfl, rfl, by decide +kernel, fun _ => rfl⟩
  | 3, h => cases h; exact ⟨RX3, TX3, 7, rfl, rfl, by decide +kernel, fun _ => rfl⟩
  | 4, h => cases h; exact ⟨RX4, TX4, 1, rfl, rfl, by decide +kernel, fun _ => rfl⟩
  | 5, h => cases h; exact ⟨RX5, TX5, 4, rfl, rfl, by decide +kernel, fun _ => rfl⟩
  | 6, h => cases h; exact ⟨RX6, TX6, 8, rfl, rfl, by decide +kernel, fun _ => rfl⟩
  | 7, h => cases h; exact ⟨RX7, TX7, 7, rfl, rfl, by decide +kernel, fun _ => rfl⟩
  | 8, h => cases h; exact ⟨RX8, TX8, 11, rfl, rfl, by decide +kernel, fun _ => rfl⟩
  | 9, h => cases h; exact ⟨RX9, TX9, 2, rfl, rfl, by decide +kernel, fun _ => rfl⟩
  | 10, h => cases h; exact ⟨RX10, TX10, 9, rfl, rfl, by decide +kernel, fun _ => rfl⟩
  | 11, h => cases h; exact ⟨RX11, TX11, 16, rfl, rfl, by decide +kernel, fun _ => rfl⟩
  | 12, h => cases h; exact ⟨RX12, TX12, 53, rfl, rfl, by decide +kernel, fun _ => rfl⟩
  | ci + 13, h => simp [gDf] at h
set_option maxRecDepth 100000 in
theorem gAr : arOk gTs := ⟨gTs_in 173 (by decide +kernel) rfl, gTs_in 2039 (by decide +kernel) rfl, gTs_in 153 (by decide +kernel) rfl, gTs_in 458 (by decide +kernel) rfl⟩
set_option maxRecDepth 100000 in
theorem gCp : cpOk gTs := ⟨gTs_in 539 (by decide +kernel) rfl, gTs_in 538 (by decide +kernel) rfl, gTs_in 116 (by decide +kernel) rfl, gTs_in 136 (by decide +kernel) rfl, gTs_in 137 (by decide +kernel) rfl, gTs_in 120 (by decide +kernel) rfl, ⟨gTs_in 585 (by decide +kernel) rfl, gTs_in 586 (by decide +kernel) rfl⟩, ⟨gTs_in 588 (by decide +kernel) rfl, gTs_in 589 (by decide +kernel) rfl⟩, ⟨gTs_in 1752 (by decide +kernel) rfl, gTs_in 1753 (by decide +kernel) rfl⟩, ⟨gTs_in 1749 (by decide +kernel) rfl, gTs_in 1750 (by decide +kernel) rfl⟩⟩
theorem gOk (xs : List Int32) (fv : Value) : pgOk (gP xs fv) gTs gXt := ⟨fun u hu => (List.mem_filter.mp hu).2, gCl, gDl, gAr, gCp, gMs xs fv⟩
