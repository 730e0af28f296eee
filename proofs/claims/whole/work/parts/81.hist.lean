/-! ===== the log, acts and the image: what both sides hold ===== -/
theorem iO_nat {a b : Int} (ha : 0 ≤ a ∧ a < 2147483648) (hb : 0 ≤ b ∧ b < 2147483648) : iO a b = ((a.toNat ||| b.toNat : Nat) : Int) := by
  obtain ⟨x, rfl⟩ : ∃ x : Nat, a = (x : Int) := ⟨a.toNat, by omega⟩
  obtain ⟨y, rfl⟩ : ∃ y : Nat, b = (y : Int) := ⟨b.toNat, by omega⟩
  have hx : x < 2 ^ 31 := by omega
  have hy : y < 2 ^ 31 := by omega
  have hxy : x ||| y < 2 ^ 31 := Nat.or_lt_two_pow hx hy
  show (Int32.ofInt (x : Int) ||| Int32.ofInt (y : Int)).toBitVec.toInt = _
  rw [Int32.toBitVec_or]
  show (BitVec.ofInt 32 (x : Int) ||| BitVec.ofInt 32 (y : Int)).toInt = _
  have e1 : (BitVec.ofInt 32 (x : Int) ||| BitVec.ofInt 32 (y : Int)).toNat = x ||| y := by
    rw [BitVec.toNat_or, BitVec.toNat_ofInt, BitVec.toNat_ofInt]
    have a1 : ((x : Int) % ((2 ^ 32 : Nat) : Int)).toNat = x := by omega
    have a2 : ((y : Int) % ((2 ^ 32 : Nat) : Int)).toNat = y := by omega
    rw [a1, a2]
  rw [BitVec.toInt_eq_toNat_of_lt (by rw [e1]; omega), e1]
  rfl
theorem iO_low {a b : Int} (k : Nat) (ha : 0 ≤ a) (hb : 0 ≤ b ∧ b < 2 ^ k) (hs : a * 2 ^ k + b < 2147483648) : iO (a * 2 ^ k) b = a * 2 ^ k + b := by
  obtain ⟨x, rfl⟩ : ∃ x : Nat, a = (x : Int) := ⟨a.toNat, by omega⟩
  obtain ⟨y, rfl⟩ : ∃ y : Nat, b = (y : Int) := ⟨b.toNat, by omega⟩
  have e0 : ((x : Int) * 2 ^ k) = ((x * 2 ^ k : Nat) : Int) := by simp
  have e2 : ((2 : Int) ^ k) = ((2 ^ k : Nat) : Int) := by simp
  rw [e0] at hs ⊢
  rw [e2] at hb
  rw [iO_nat (by omega) (by omega), Int.toNat_natCast, Int.toNat_natCast]
  have h := Nat.two_pow_add_eq_or_of_lt (b := y) (i := k) (by omega) x
  have e3 : x * 2 ^ k = 2 ^ k * x := Nat.mul_comm _ _
  rw [e3, ← h]
  omega
/-- a row of the log in one number -/
def pk (col sum fell : Int) : Int := (sum + 2048) * 1024 + fell * 16 + col
theorem pk_e {col sum fell : Int} (h1 : 0 ≤ col ∧ col < 16) (h2 : -2048 ≤ sum ∧ sum < 2048) (h3 : 0 ≤ fell ∧ fell < 64) : iO (iO (iSl (sum + 2048) 10) (iSl fell 4)) col = pk col sum fell := by
  have e1 : iSl (sum + 2048) 10 = (sum + 2048) * 2 ^ 10 := iSl_e 10 (by omega) (by decide)
  have e2 : iSl fell 4 = fell * 2 ^ 4 := iSl_e 4 (by omega) (by decide)
  rw [e1, e2, iO_low 10 (by omega) (by omega) (by omega)]
  have e3 : (sum + 2048) * 2 ^ 10 + fell * 2 ^ 4 = ((sum + 2048) * 64 + fell) * 2 ^ 4 := by omega
  rw [e3, iO_low 4 (by omega) (by omega) (by omega)]
  unfold pk
  omega
theorem pk_col {col sum fell : Int} (h1 : 0 ≤ col ∧ col < 16) (h2 : -2048 ≤ sum ∧ sum < 2048) (h3 : 0 ≤ fell ∧ fell < 64) : iA (pk col sum fell) 15 = col := by
  rw [iA_15]
  unfold pk
  omega
theorem pk_sum {col sum fell : Int} (h1 : 0 ≤ col ∧ col < 16) (h2 : -2048 ≤ sum ∧ sum < 2048) (h3 : 0 ≤ fell ∧ fell < 64) : iSr (pk col sum fell) 10 - 2048 = sum := by
  have e := iSr_e (x := pk col sum fell) 10 (by unfold pk; omega) (by decide)
  have e' : iSr (pk col sum fell) 10 = pk col sum fell / 2 ^ 10 := e
  rw [e']
  unfold pk
  omega
theorem pk_fell {col sum fell : Int} (h1 : 0 ≤ col ∧ col < 16) (h2 : -2048 ≤ sum ∧ sum < 2048) (h3 : 0 ≤ fell ∧ fell < 64) : iA (iSr (pk col sum fell) 4) 63 = fell := by
  have e := iSr_e (x := pk col sum fell) 4 (by unfold pk; omega) (by decide)
  have e' : iSr (pk col sum fell) 4 = pk col sum fell / 2 ^ 4 := e
  rw [iA_63, e']
  unfold pk
  omega
/-- the i-th row of a log, counted from its beginning -/
def lrow (q : Int → Int) (i : Int) : Int := pk (q (25 + 3 * i)) (q (26 + 3 * i)) (q (27 + 3 * i))
def lrng (q : Int → Int) : Prop := (0 ≤ q 24 ∧ q 24 ≤ 60) ∧ ∀ i, 0 ≤ i → i < q 24 → (0 ≤ q (25 + 3 * i) ∧ q (25 + 3 * i) < 16) ∧ (-2048 ≤ q (26 + 3 * i) ∧ q (26 + 3 * i) < 2048) ∧ (0 ≤ q (27 + 3 * i) ∧ q (27 + 3 * i) < 64)
/-- the ring holds this log, its end at lg -/
def Lg (E : Int → Int) (lg : Int) (q : Int → Int) : Prop := lrng q ∧ 0 ≤ lg ∧ q 24 = min lg 60 ∧ ∀ i, 0 ≤ i → i < q 24 → E ((lg - 1 - i) % 1024) = lrow q (q 24 - 1 - i)
theorem Lg.fresh {E : Int → Int} {lg L v : Int} {q : Int → Int} (h : Lg E lg q) (h1 : lg ≤ L) (h2 : L - lg ≤ 900) : Lg (fun j => if j = L % 1024 then v else E j) lg q := by
  obtain ⟨a1, a2, a3, a4⟩ := h
  refine ⟨a1, a2, a3, fun i h3 h4 => ?_⟩
  dsimp only
  rw [if_neg (by omega)]
  exact a4 i h3 h4
theorem Lg.cg {E E' : Int → Int} {lg : Int} {q q' : Int → Int} (h : Lg E lg q) (hE : ∀ j, 0 ≤ j → j < 1024 → E' j = E j) (hq : ∀ j, 0 ≤ j → j < 205 → q' j = q j) : Lg E' lg q' := by
  obtain ⟨⟨a0, a1⟩, a2, a3, a4⟩ := h
  unfold Lg lrng
  rw [hq 24 (by omega) (by omega)]
  refine ⟨⟨a0, fun i h1 h2 => ?_⟩, a2, a3, fun i h1 h2 => ?_⟩
  · rw [hq _ (by omega) (by omega), hq _ (by omega) (by omega), hq _ (by omega) (by omega)]
    exact a1 i h1 h2
  · rw [hE _ (by omega) (by omega), a4 i h1 h2]
    unfold lrow
    rw [hq _ (by omega) (by omega), hq _ (by omega) (by omega), hq _ (by omega) (by omega)]
theorem Sr.cq {K : Kn} {wt f q q' : Int → Int} (h : Sr K wt f q) (hn : kNm K ≤ 6) (hq : ∀ j, 0 ≤ j → j < 24 → q' j = q j) : Sr K wt f q' := by
  unfold Sr at *
  obtain ⟨a1, a2, a3, a4, a5, a6, a7⟩ := h
  rw [hq 18 (by omega) (by omega), hq 19 (by omega) (by omega), hq 20 (by omega) (by omega), hq 21 (by omega) (by omega), hq 22 (by omega) (by omega), hq 23 (by omega) (by omega)]
  refine ⟨fun k h1 h2 => ?_, a2, a3, a4, a5, a6, a7⟩
  rw [hq k h1 (by omega), hq (6 + k) (by omega) (by omega), hq (12 + k) (by omega) (by omega)]
  exact a1 k h1 h2
theorem Qok.cq {K : Kn} {q q' : Int → Int} (h : Qok K q) (hn : kNm K ≤ 6) (hq : ∀ j, 0 ≤ j → j < 24 → q' j = q j) : Qok K q' := by
  unfold Qok at *
  obtain ⟨a1, a2, a3, a4, a5, a6⟩ := h
  rw [hq 18 (by omega) (by omega), hq 19 (by omega) (by omega), hq 20 (by omega) (by omega), hq 21 (by omega) (by omega), hq 22 (by omega) (by omega)]
  refine ⟨fun k h1 h2 => ?_, a2, a3, a4, a5, a6⟩
  rw [hq k h1 (by omega), hq (6 + k) (by omega) (by omega), hq (12 + k) (by omega) (by omega)]
  exact a1 k h1 h2
/-! a row further, with the log -/
def shA (q : Int → Int) : Int → Int := fun j => if q 24 = 60 then (if 25 ≤ j ∧ j < 202 then q (j + 3) else if j = 24 then 59 else q j) else q j
def noteA (q : Int → Int) (s fell : Int) : Int → Int := fun j => if j = 24 then q 24 + 1 else if j = 3 * q 24 + 27 then fell else if j = 3 * q 24 + 26 then s else if j = 3 * q 24 + 25 then q 22 else q j
def passA (K : Kn) (wt : Int → Int) (pf : Pf) (q : Int → Int) : Int → Int := noteA (shA (slideA K wt pf q)) (sumA K wt pf q) (fellA K wt pf q)
theorem sh24 {q : Int → Int} (h : 0 ≤ q 24 ∧ q 24 ≤ 60) : shA q 24 = min (q 24) 59 ∧ 0 ≤ shA q 24 ∧ shA q 24 ≤ 59 := by
  unfold shA
  by_cases z : q 24 = 60
  · rw [if_pos z, if_neg (by omega), if_pos rfl]
    omega
  · rw [if_neg z]
    omega
theorem sh_low {q : Int → Int} {j : Int} (h : j < 24) : shA q j = q j := by
  unfold shA
  split
  · rw [if_neg (by omega), if_neg (by omega)]
  · rfl
theorem pass_low {K : Kn} {wt : Int → Int} {pf : Pf} {q : Int → Int} (h : 0 ≤ q 24 ∧ q 24 ≤ 60) {j : Int} (hj : 0 ≤ j ∧ j < 24) : passA K wt pf q j = slideA K wt pf q j := by
  have e24 : slideA K wt pf q 24 = q 24 := rfl
  have h2 := sh24 (q := slideA K wt pf q) (by rw [e24]; exact h)
  unfold passA noteA
  rw [if_neg (by omega), if_neg (by omega), if_neg (by omega), if_neg (by omega), sh_low (by omega)]
theorem Lg.pass {E : Int → Int} {lg : Int} {K : Kn} {wt : Int → Int} {pf : Pf} {q : Int → Int} (h : Lg E lg q) (hc : 0 ≤ slideA K wt pf q 22 ∧ slideA K wt pf q 22 < 16) (hs : -2048 ≤ sumA K wt pf q ∧ sumA K wt pf q < 2048) (hf : 0 ≤ fellA K wt pf q ∧ fellA K wt pf q < 64) : Lg (fun j => if j = lg % 1024 then pk (slideA K wt pf q 22) (sumA K wt pf q) (fellA K wt pf q) else E j) (lg + 1) (passA K wt pf q) := by
  obtain ⟨⟨a0, a1⟩, a2, a3, a4⟩ := h
  obtain ⟨S, hS⟩ : ∃ S, S = sumA K wt pf q := ⟨_, rfl⟩
  obtain ⟨F, hF⟩ : ∃ F, F = fellA K wt pf q := ⟨_, rfl⟩
  obtain ⟨C, hC⟩ : ∃ C, C = slideA K wt pf q 22 := ⟨_, rfl⟩
  rw [← hS] at hs ⊢
  rw [← hF] at hf ⊢
  rw [← hC] at hc ⊢
  have e24 : slideA K wt pf q 24 = q 24 := rfl
  have el : ∀ j, 25 ≤ j → slideA K wt pf q j = q j := fun j hj => by unfold slideA; rw [if_neg (by omega), if_neg (by omega), if_neg (by omega)]
  have h2 := sh24 (q := slideA K wt pf q) (by rw [e24]; exact a0)
  rw [e24] at h2
  obtain ⟨N, hN⟩ : ∃ N, N = shA (slideA K wt pf q) 24 := ⟨_, rfl⟩
  rw [← hN] at h2
  have p24 : passA K wt pf q 24 = N + 1 := by unfold passA noteA; rw [if_pos rfl, ← hN]
  have sh22 : shA (slideA K wt pf q) 22 = C := by rw [sh_low (by omega), hC]
  have pl : ∀ i, 0 ≤ i → i < N → ∀ r, 0 ≤ r → r < 3 → passA K wt pf q (25 + 3 * i + r) = (if q 24 = 60 then q (25 + 3 * (i + 1) + r) else q (25 + 3 * i + r)) := by
    intro i h1 h3 r r1 r2
    unfold passA noteA
    rw [← hN, if_neg (by omega), if_neg (by omega), if_neg (by omega), if_neg (by omega)]
    unfold shA
    rw [e24]
    by_cases z : q 24 = 60
    · rw [if_pos z, if_pos z, if_pos (by omega), el _ (by omega)]
      congr 1
      omega
    · rw [if_neg z, if_neg z, el _ (by omega)]
  have pt : ∀ r, passA K wt pf q (25 + 3 * N + r) = if r = 0 then C else if r = 1 then S else if r = 2 then F else passA K wt pf q (25 + 3 * N + r) := by
    intro r
    by_cases r0 : r = 0
    · rw [if_pos r0, r0]
      unfold passA noteA
      rw [← hN, sh22, if_neg (by omega), if_neg (by omega), if_neg (by omega), if_pos (by omega)]
    · by_cases r1 : r = 1
      · rw [if_neg r0, if_pos r1, r1]
        unfold passA noteA
        rw [← hN, if_neg (by omega), if_neg (by omega), if_pos (by omega), hS]
      · by_cases r2 : r = 2
        · rw [if_neg r0, if_neg r1, if_pos r2, r2]
          unfold passA noteA
          rw [← hN, if_neg (by omega), if_pos (by omega), hF]
        · rw [if_neg r0, if_neg r1, if_neg r2]
  have t0 : passA K wt pf q (25 + 3 * N) = C := by have := pt 0; rw [Int.add_zero, if_pos rfl] at this; exact this
  have t1 : passA K wt pf q (26 + 3 * N) = S := by
    have := pt 1
    rw [if_neg (by decide), if_pos rfl] at this
    have e : 26 + 3 * N = 25 + 3 * N + 1 := by omega
    rw [e]
    exact this
  have t2 : passA K wt pf q (27 + 3 * N) = F := by
    have := pt 2
    rw [if_neg (by decide), if_neg (by decide), if_pos rfl] at this
    have e : 27 + 3 * N = 25 + 3 * N + 2 := by omega
    rw [e]
    exact this
  have row : ∀ i, 0 ≤ i → i < N → passA K wt pf q (25 + 3 * i) = (if q 24 = 60 then q (25 + 3 * (i + 1)) else q (25 + 3 * i)) ∧ passA K wt pf q (26 + 3 * i) = (if q 24 = 60 then q (26 + 3 * (i + 1)) else q (26 + 3 * i)) ∧ passA K wt pf q (27 + 3 * i) = (if q 24 = 60 then q (27 + 3 * (i + 1)) else q (27 + 3 * i)) := by
    intro i h1 h3
    have p0 := pl i h1 h3 0 (by omega) (by omega)
    have p1 := pl i h1 h3 1 (by omega) (by omega)
    have p2 := pl i h1 h3 2 (by omega) (by omega)
    have e1 : 26 + 3 * i = 25 + 3 * i + 1 := by omega
    have e2 : 27 + 3 * i = 25 + 3 * i + 2 := by omega
    have e3 : 26 + 3 * (i + 1) = 25 + 3 * (i + 1) + 1 := by omega
    have e4 : 27 + 3 * (i + 1) = 25 + 3 * (i + 1) + 2 := by omega
    rw [Int.add_zero, Int.add_zero] at p0
    rw [e1, e2, e3, e4]
    exact ⟨p0, p1, p2⟩
  refine ⟨⟨by rw [p24]; omega, fun i h1 h3 => ?_⟩, by omega, by rw [p24]; omega, fun i h1 h3 => ?_⟩
  · rw [p24] at h3
    by_cases z : i = N
    · rw [z, t0, t1, t2]
      exact ⟨hc, hs, hf⟩
    · obtain ⟨r0, r1, r2⟩ := row i h1 (by omega)
      rw [r0, r1, r2]
      by_cases z2 : q 24 = 60
      · rw [if_pos z2, if_pos z2, if_pos z2]
        exact a1 (i + 1) (by omega) (by omega)
      · rw [if_neg z2, if_neg z2, if_neg z2]
        exact a1 i h1 (by omega)
  · rw [p24] at h3 ⊢
    dsimp only
    by_cases z : i = 0
    · rw [if_pos (by omega)]
      have e : N + 1 - 1 - i = N := by omega
      unfold lrow
      rw [e, t0, t1, t2]
    · rw [if_neg (by omega)]
      have e1 : lg + 1 - 1 - i = lg - 1 - (i - 1) := by omega
      rw [e1, a4 (i - 1) (by omega) (by omega)]
      obtain ⟨r0, r1, r2⟩ := row (N + 1 - 1 - i) (by omega) (by omega)
      unfold lrow
      rw [r0, r1, r2]
      by_cases z2 : q 24 = 60
      · rw [if_pos z2, if_pos z2, if_pos z2]
        have e : N + 1 - 1 - i + 1 = q 24 - 1 - (i - 1) := by omega
        rw [e]
      · rw [if_neg z2, if_neg z2, if_neg z2]
        have e : N + 1 - 1 - i = q 24 - 1 - (i - 1) := by omega
        rw [e]
