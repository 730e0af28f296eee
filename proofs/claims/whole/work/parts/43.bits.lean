/-! ===== Int32 by its bits: bt x i ===== -/
def bt (x : Int32) (i : Nat) : Bool := x.toBitVec.getLsbD i
theorem b_ext {x y : Int32} (h : ∀ i, i < 32 → bt x i = bt y i) : x = y := Int32.toBitVec_inj.mp (BitVec.eq_of_getLsbD_eq (fun i hi => h i hi))
theorem b_or (x y : Int32) (i : Nat) : bt (x ||| y) i = (bt x i || bt y i) := by unfold bt; rw [Int32.toBitVec_or, BitVec.getLsbD_or]
theorem b_and (x y : Int32) (i : Nat) : bt (x &&& y) i = (bt x i && bt y i) := by unfold bt; rw [Int32.toBitVec_and, BitVec.getLsbD_and]
theorem b_xor (x y : Int32) (i : Nat) : bt (x ^^^ y) i = (bt x i ^^ bt y i) := by unfold bt; rw [Int32.toBitVec_xor, BitVec.getLsbD_xor]
theorem b_big {x : Int32} {i : Nat} (h : 32 ≤ i) : bt x i = false := BitVec.getLsbD_of_ge _ _ h
theorem b_255 (i : Nat) : bt 255 i = decide (i < 8) := by
  rcases Nat.lt_or_ge i 32 with h | h
  · exact (by decide +kernel : ∀ i, i < 32 → bt 255 i = decide (i < 8)) i h
  · rw [b_big h, decide_eq_false (by omega)]
theorem b_65535 (i : Nat) : bt 65535 i = decide (i < 16) := by
  rcases Nat.lt_or_ge i 32 with h | h
  · exact (by decide +kernel : ∀ i, i < 32 → bt 65535 i = decide (i < 16)) i h
  · rw [b_big h, decide_eq_false (by omega)]
theorem b_m1 : ∀ i, i < 32 → bt (-1) i = true := by decide +kernel
theorem b_0 (i : Nat) : bt 0 i = false := BitVec.getLsbD_zero
theorem s_l : ∀ n, n < 32 → ((nI n &&& 31).toBitVec.smod 32).toNat = n := by decide +kernel
theorem s_u : ∀ n, n < 32 → (((nI n).toUInt32 &&& Int32.toUInt32 31).toBitVec % 32).toNat = n := by decide +kernel
theorem b_shl (n : Nat) (hn : n < 32) (x : Int32) {i : Nat} (hi : i < 32) : bt (x <<< (nI n &&& 31)) i = (decide (n ≤ i) && bt x (i - n)) := by
  unfold bt
  rw [Int32.toBitVec_shiftLeft]
  show (x.toBitVec <<< ((nI n &&& 31).toBitVec.smod 32).toNat).getLsbD i = _
  rw [s_l n hn, BitVec.getLsbD_shiftLeft]
  rcases Nat.lt_or_ge i n with h | h
  · simp [h, Nat.not_le.mpr h]
  · simp [hi, h, Nat.not_lt.mpr h]
theorem b_ushr (n : Nat) (hn : n < 32) (x : Int32) (i : Nat) : bt ((x.toUInt32 >>> ((nI n).toUInt32 &&& Int32.toUInt32 31)).toInt32) i = bt x (n + i) := by
  show (x.toUInt32 >>> ((nI n).toUInt32 &&& Int32.toUInt32 31)).toBitVec.getLsbD i = x.toUInt32.toBitVec.getLsbD (n + i)
  rw [UInt32.toBitVec_shiftRight]
  show (x.toUInt32.toBitVec >>> (((nI n).toUInt32 &&& Int32.toUInt32 31).toBitVec % 32).toNat).getLsbD i = _
  rw [s_u n hn, BitVec.getLsbD_ushiftRight]
theorem b_sshr (n : Nat) (hn : n < 32) (x : Int32) {i : Nat} (hi : i < 32) : bt (x >>> (nI n &&& 31)) i = if n + i < 32 then bt x (n + i) else bt x 31 := by
  unfold bt
  rw [Int32.toBitVec_shiftRight]
  show (x.toBitVec.sshiftRight ((nI n &&& 31).toBitVec.smod 32).toNat).getLsbD i = _
  rw [s_l n hn, BitVec.getLsbD_sshiftRight, BitVec.msb_eq_getLsbD_last]
  simp [hi]
/-! ===== bits and fours of bits as numbers ===== -/
def bit (x k : Int) : Int := iA (iSr x k) 1
def nib (p k : Int) : Int := iA (iSr p (k * 4)) 15
def wth (p k v : Int) : Int := iO (iA p (iX (iSl 15 (k * 4)) (-1))) (iSl v (k * 4))
theorem ofI_nI (k : Nat) : Int32.ofInt (k : Int) = nI k := Int32.ofInt_eq_ofNat
theorem mask_toInt (y : Int32) (j : Nat) (hj : j ≤ 30) : (y &&& nI (2 ^ j - 1)).toInt = ((y.toBitVec.toNat % 2 ^ j : Nat) : Int) := by
  have hp : 2 ^ j ≤ 2 ^ 30 := Nat.pow_le_pow_right (by decide) hj
  have hq : 0 < 2 ^ j := Nat.pow_pos (by decide)
  have h1 : (y &&& nI (2 ^ j - 1)).toBitVec.toNat = y.toBitVec.toNat % 2 ^ j := by
    rw [Int32.toBitVec_and, BitVec.toNat_and]
    show y.toBitVec.toNat &&& (BitVec.ofNat 32 (2 ^ j - 1)).toNat = _
    rw [BitVec.toNat_ofNat, Nat.mod_eq_of_lt (by omega), Nat.and_two_pow_sub_one_eq_mod]
  have h2 : y.toBitVec.toNat % 2 ^ j < 2 ^ j := Nat.mod_lt _ hq
  show (y &&& nI (2 ^ j - 1)).toBitVec.toInt = _
  rw [BitVec.toInt_eq_toNat_of_lt (by rw [h1]; omega), h1]
theorem ofInt_toNat (x : Int) : (((Int32.ofInt x).toBitVec.toNat : Nat) : Int) = x % 4294967296 := by
  show (((BitVec.ofInt 32 x).toNat : Nat) : Int) = _
  rw [BitVec.toNat_ofInt]
  have : (0 : Int) ≤ x % ((2 ^ 32 : Nat) : Int) := Int.emod_nonneg _ (by decide)
  rw [Int.toNat_of_nonneg this]
  rfl
theorem iA_1 (x : Int) : iA x 1 = x % 2 := by
  have h := mask_toInt (Int32.ofInt x) 1 (by decide)
  have e : iA x 1 = (Int32.ofInt x &&& nI (2 ^ 1 - 1)).toInt := rfl
  rw [e, h, Int.natCast_emod, ofInt_toNat]
  omega
theorem iA_15 (x : Int) : iA x 15 = x % 16 := by
  have h := mask_toInt (Int32.ofInt x) 4 (by decide)
  have e : iA x 15 = (Int32.ofInt x &&& nI (2 ^ 4 - 1)).toInt := rfl
  rw [e, h, Int.natCast_emod, ofInt_toNat]
  omega
theorem iA_63 (x : Int) : iA x 63 = x % 64 := by
  have h := mask_toInt (Int32.ofInt x) 6 (by decide)
  have e : iA x 63 = (Int32.ofInt x &&& nI (2 ^ 6 - 1)).toInt := rfl
  rw [e, h, Int.natCast_emod, ofInt_toNat]
  omega
theorem iA_255 (x : Int) : iA x 255 = x % 256 := by
  have h := mask_toInt (Int32.ofInt x) 8 (by decide)
  have e : iA x 255 = (Int32.ofInt x &&& nI (2 ^ 8 - 1)).toInt := rfl
  rw [e, h, Int.natCast_emod, ofInt_toNat]
  omega
theorem iA_1023 (x : Int) : iA x 1023 = x % 1024 := by
  have h := mask_toInt (Int32.ofInt x) 10 (by decide)
  have e : iA x 1023 = (Int32.ofInt x &&& nI (2 ^ 10 - 1)).toInt := rfl
  rw [e, h, Int.natCast_emod, ofInt_toNat]
  omega
theorem iA_16383 (x : Int) : iA x 16383 = x % 16384 := by
  have h := mask_toInt (Int32.ofInt x) 14 (by decide)
  have e : iA x 16383 = (Int32.ofInt x &&& nI (2 ^ 14 - 1)).toInt := rfl
  rw [e, h, Int.natCast_emod, ofInt_toNat]
  omega
theorem iSr_e {x : Int} (k : Nat) (hx : -2147483648 ≤ x ∧ x < 2147483648) (hk : k < 32) : iSr x k = x / 2 ^ k := by
  unfold iSr
  rw [ofI_nI]
  show (Int32.ofInt x >>> (nI k &&& 31)).toBitVec.toInt = _
  rw [Int32.toBitVec_shiftRight]
  show ((Int32.ofInt x).toBitVec.sshiftRight ((nI k &&& 31).toBitVec.smod 32).toNat).toInt = _
  rw [s_l k hk, BitVec.toInt_sshiftRight, Int.shiftRight_eq_div_pow]
  have e : (Int32.ofInt x).toBitVec.toInt = x := i32_r hx
  rw [e]
  simp
theorem iSl_e {x : Int} (k : Nat) (hx : -2147483648 ≤ x * 2 ^ k ∧ x * 2 ^ k < 2147483648) (hk : k < 32) : iSl x k = x * 2 ^ k := by
  unfold iSl
  rw [ofI_nI]
  show (Int32.ofInt x <<< (nI k &&& 31)).toBitVec.toInt = _
  rw [Int32.toBitVec_shiftLeft]
  show ((Int32.ofInt x).toBitVec <<< ((nI k &&& 31).toBitVec.smod 32).toNat).toInt = _
  rw [s_l k hk]
  have e : (Int32.ofInt x).toBitVec <<< k = (Int32.ofInt (x * 2 ^ k)).toBitVec := by
    show BitVec.ofInt 32 x <<< k = BitVec.ofInt 32 (x * 2 ^ k)
    rw [BitVec.shiftLeft_eq_mul_twoPow, BitVec.ofInt_mul]
    congr 1
    apply BitVec.eq_of_toNat_eq
    rw [BitVec.toNat_twoPow, BitVec.toNat_ofInt]
    have : ((2 : Int) ^ k) = ((2 ^ k : Nat) : Int) := by simp
    rw [this, ← Int.natCast_emod, Int.toNat_natCast]
  rw [e]
  exact i32_r hx
theorem bit_e {x : Int} (k : Nat) (hx : -2147483648 ≤ x ∧ x < 2147483648) (hk : k < 32) : bit x k = x / 2 ^ k % 2 := by
  unfold bit
  rw [iA_1, iSr_e k hx hk]
theorem bit01 (x k : Int) : bit x k = 0 ∨ bit x k = 1 := by
  unfold bit
  rw [iA_1]
  omega
theorem nib_r (p k : Int) : 0 ≤ nib p k ∧ nib p k < 16 := by
  unfold nib
  rw [iA_15]
  omega
theorem b_15 (i : Nat) (hi : i < 32) : bt (nI 15) i = decide (i < 4) := (by decide +kernel : ∀ i, i < 32 → bt (nI 15) i = decide (i < 4)) i hi
theorem Nb_Wt (P V : Int32) (k j : Nat) (hk : k < 6) (hj : j < 6) (hV : ∀ i, 4 ≤ i → bt V i = false) : ((((P &&& ((nI 15 <<< (nI (4 * k) &&& 31)) ^^^ (-1))) ||| (V <<< (nI (4 * k) &&& 31))) >>> (nI (4 * j) &&& 31)) &&& nI 15) = if j = k then V else ((P >>> (nI (4 * j) &&& 31)) &&& nI 15) := by
  apply b_ext
  intro i hi
  rw [b_and, b_15 i hi]
  by_cases h4 : i < 4
  · rw [decide_eq_true h4, Bool.and_true, b_sshr _ (by omega) _ hi, if_pos (by omega), b_or, b_and, b_xor, b_shl _ (by omega) _ (by omega), b_shl _ (by omega) _ (by omega), b_m1 _ (by omega), b_15 _ (by omega)]
    by_cases e : j = k
    · subst e
      rw [if_pos rfl, decide_eq_true (show 4 * j ≤ 4 * j + i by omega), decide_eq_true (show 4 * j + i - 4 * j < 4 by omega)]
      have : 4 * j + i - 4 * j = i := by omega
      rw [this]
      simp
    · rw [if_neg e, b_and, b_sshr _ (by omega) _ hi, if_pos (by omega), b_15 i hi, decide_eq_true h4]
      by_cases c : j < k
      · rw [decide_eq_false (show ¬ 4 * k ≤ 4 * j + i by omega)]
        simp
      · rw [decide_eq_true (show 4 * k ≤ 4 * j + i by omega), decide_eq_false (show ¬ 4 * j + i - 4 * k < 4 by omega), hV _ (by omega)]
        simp
  · rw [decide_eq_false h4, Bool.and_false]
    split
    · rw [hV i (by omega)]
    · rw [b_and, b_15 i hi, decide_eq_false h4, Bool.and_false]
theorem small_bits {v : Int} (hv : 0 ≤ v ∧ v < 16) : ∀ i, 4 ≤ i → bt (Int32.ofInt v) i = false := by
  intro i hi
  obtain ⟨n, rfl⟩ : ∃ n : Nat, v = (n : Int) := ⟨v.toNat, by omega⟩
  rw [ofI_nI]
  rcases Nat.lt_or_ge i 32 with h | h
  · exact (by decide +kernel : ∀ n, n < 16 → ∀ i, i < 32 → 4 ≤ i → bt (nI n) i = false) n (by omega) i h hi
  · exact b_big h
theorem nib_wth {p v : Int} (k j : Nat) (hk : k < 6) (hj : j < 6) (hv : 0 ≤ v ∧ v < 16) : nib (wth p k v) j = if j = k then v else nib p j := by
  have e1 : ∀ q : Nat, Int32.ofInt ((q : Int) * 4) = nI (4 * q) := by
    intro q
    rw [← ofI_nI]
    congr 1
    omega
  unfold nib wth iA iO iX iSl iSr
  simp only [Int32.ofInt_toInt, e1]
  have h := Nb_Wt (Int32.ofInt p) (Int32.ofInt v) k j hk hj (small_bits hv)
  have e2 : Int32.ofInt 15 = nI 15 := rfl
  have e3 : Int32.ofInt (-1) = -1 := rfl
  rw [e2, e3, h]
  split
  · exact i32_r (by omega)
  · rfl
