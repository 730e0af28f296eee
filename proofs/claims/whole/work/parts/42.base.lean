/-! ===== the world after both constructors; further rules; judgements with a condition at the end ===== -/
def bs : List Sh := [.inl (11, [4, 6, 9, 11, 0, 0, 2, 2, 20, 21, 24, 69, 76, 85, 0, 1]),
  .inl (9, [5, 0]),
  .inr (.inl (2, 240)),
  .inl (1, [4, 7, 8, 0]),
  .inr (.inl (0, 5)),
  .inr (.inl (0, 4)),
  .inl (5, [4, 10, 0, 0]),
  .inr (.inl (0, 241)),
  .inr (.inl (4, 4)),
  .inl (0, [13, 14, 15, 0, 0, 0, 0]),
  .inr (.inl (0, 5)),
  .inr (.inl (0, 24)),
  .inr (.inl (0, 24)),
  .inl (0, [17, 18, 19, 0, 0, 0, 0]),
  .inr (.inl (0, 5)),
  .inr (.inl (0, 24)),
  .inr (.inl (0, 24)),
  .inl (8, [0, 0, 0, 0, 0, 0, 0, 0, 0, 0, 0]),
  .inl (7, [2, 2, 0, 0, 0, 22, 23]),
  .inr (.inl (0, 6)),
  .inr (.inl (0, 40)),
  .inl (3, [0, 0, 25, 26, 0, 27, 28]),
  .inr (.inl (0, 1024)),
  .inr (.inl (5, 40)),
  .inl (8, [0, 0, 0, 0, 0, 0, 0, 0, 0, 0, 0]),
  .inr (.inl (0, 60)),
  .inl (8, [0, 0, 0, 0, 0, 0, 0, 0, 0, 0, 0]),
  .inl (8, [0, 0, 0, 0, 0, 0, 0, 0, 0, 0, 0]),
  .inl (8, [0, 0, 0, 0, 0, 0, 0, 0, 0, 0, 0]),
  .inl (8, [0, 0, 0, 0, 0, 0, 0, 0, 0, 0, 0]),
  .inl (8, [0, 0, 0, 0, 0, 0, 0, 0, 0, 0, 0]),
  .inl (8, [0, 0, 0, 0, 0, 0, 0, 0, 0, 0, 0]),
  .inl (8, [0, 0, 0, 0, 0, 0, 0, 0, 0, 0, 0]),
  .inl (8, [0, 0, 0, 0, 0, 0, 0, 0, 0, 0, 0]),
  .inl (8, [0, 0, 0, 0, 0, 0, 0, 0, 0, 0, 0]),
  .inl (8, [0, 0, 0, 0, 0, 0, 0, 0, 0, 0, 0]),
  .inl (8, [0, 0, 0, 0, 0, 0, 0, 0, 0, 0, 0]),
  .inl (8, [0, 0, 0, 0, 0, 0, 0, 0, 0, 0, 0]),
  .inl (8, [0, 0, 0, 0, 0, 0, 0, 0, 0, 0, 0]),
  .inl (8, [0, 0, 0, 0, 0, 0, 0, 0, 0, 0, 0]),
  .inl (8, [0, 0, 0, 0, 0, 0, 0, 0, 0, 0, 0]),
  .inl (8, [0, 0, 0, 0, 0, 0, 0, 0, 0, 0, 0]),
  .inl (8, [0, 0, 0, 0, 0, 0, 0, 0, 0, 0, 0]),
  .inl (8, [0, 0, 0, 0, 0, 0, 0, 0, 0, 0, 0]),
  .inl (8, [0, 0, 0, 0, 0, 0, 0, 0, 0, 0, 0]),
  .inl (8, [0, 0, 0, 0, 0, 0, 0, 0, 0, 0, 0]),
  .inl (8, [0, 0, 0, 0, 0, 0, 0, 0, 0, 0, 0]),
  .inl (8, [0, 0, 0, 0, 0, 0, 0, 0, 0, 0, 0]),
  .inl (8, [0, 0, 0, 0, 0, 0, 0, 0, 0, 0, 0]),
  .inl (8, [0, 0, 0, 0, 0, 0, 0, 0, 0, 0, 0]),
  .inl (8, [0, 0, 0, 0, 0, 0, 0, 0, 0, 0, 0]),
  .inl (8, [0, 0, 0, 0, 0, 0, 0, 0, 0, 0, 0]),
  .inl (8, [0, 0, 0, 0, 0, 0, 0, 0, 0, 0, 0]),
  .inl (8, [0, 0, 0, 0, 0, 0, 0, 0, 0, 0, 0]),
  .inl (8, [0, 0, 0, 0, 0, 0, 0, 0, 0, 0, 0]),
  .inl (8, [0, 0, 0, 0, 0, 0, 0, 0, 0, 0, 0]),
  .inl (8, [0, 0, 0, 0, 0, 0, 0, 0, 0, 0, 0]),
  .inl (8, [0, 0, 0, 0, 0, 0, 0, 0, 0, 0, 0]),
  .inl (8, [0, 0, 0, 0, 0, 0, 0, 0, 0, 0, 0]),
  .inl (8, [0, 0, 0, 0, 0, 0, 0, 0, 0, 0, 0]),
  .inl (8, [0, 0, 0, 0, 0, 0, 0, 0, 0, 0, 0]),
  .inl (8, [0, 0, 0, 0, 0, 0, 0, 0, 0, 0, 0]),
  .inl (8, [0, 0, 0, 0, 0, 0, 0, 0, 0, 0, 0]),
  .inl (8, [0, 0, 0, 0, 0, 0, 0, 0, 0, 0, 0]),
  .inl (8, [0, 0, 0, 0, 0, 0, 0, 0, 0, 0, 0]),
  .inl (8, [0, 0, 0, 0, 0, 0, 0, 0, 0, 0, 0]),
  .inl (6, [70, 0, 0, 21, 72, 73, 74, 75]),
  .inl (2, [71, 0]),
  .inr (.inl (0, 64)),
  .inl (8, [0, 0, 0, 0, 0, 0, 0, 0, 0, 0, 0]),
  .inr (.inl (0, 6)),
  .inr (.inl (0, 64)),
  .inr (.inl (0, 18)),
  .inl (10, [0, 77, 21, 79, 80, 81, 82, 83, 84]),
  .inl (2, [78, 0]),
  .inr (.inl (0, 7)),
  .inl (8, [0, 0, 0, 0, 0, 0, 0, 0, 0, 0, 0]),
  .inr (.inl (0, 10)),
  .inr (.inl (0, 10)),
  .inr (.inl (1, 10)),
  .inr (.inl (0, 21)),
  .inr (.inl (0, 189)),
  .inr (.inl (0, 5)),
  .inl (12, [0, 87, 0, 0, 0, 0, 88, 89, 90, 91, 92, 93, 94, 0, 0, 95, 96, 97, 98, 99, 100, 0, 0, 0, 101, 102, 103, 0, 0, 0, 104, 105, 0, 0, 0, 106, 0, 1, 107, 0, 0, 0, 0, 108, 109, 110, 111, 112, 0, 113, 114, 115, 0]),
  .inr (.inl (0, 240)),
  .inr (.inl (0, 2600)),
  .inr (.inl (0, 2600)),
  .inr (.inl (0, 5)),
  .inr (.inl (0, 5)),
  .inr (.inl (0, 700)),
  .inr (.inl (0, 700)),
  .inr (.inl (0, 700)),
  .inr (.inl (0, 6)),
  .inr (.inl (0, 80)),
  .inr (.inl (0, 5)),
  .inr (.inl (0, 24)),
  .inr (.inl (0, 4)),
  .inr (.inl (0, 24)),
  .inr (.inl (0, 5)),
  .inr (.inl (0, 24)),
  .inr (.inl (0, 24)),
  .inr (.inl (0, 205)),
  .inr (.inl (0, 5)),
  .inr (.inl (0, 8200)),
  .inr (.inl (0, 24)),
  .inr (.inl (0, 6)),
  .inr (.inl (0, 6)),
  .inr (.inl (0, 10)),
  .inr (.inl (0, 10)),
  .inr (.inl (1, 10)),
  .inr (.inl (0, 210)),
  .inr (.inl (0, 6)),
  .inr (.inl (0, 205)),
  .inr (.inl (3, 1))]
abbrev stS : Sh := .inl (8, [0, 0, 0, 0, 0, 0, 0, 0, 0, 0, 0])
abbrev cnS (c : Nat) : Sh := .inl (0, [c + 1 + 3, c + 2 + 3, c + 3 + 3, 0, 0, 0, 0])
def m0 : Mm := fun a k => if a = 0 ∧ k = 5 then -1 else if a = 0 ∧ k = 6 then 9 else if a = 0 ∧ k = 7 then 13 else if a = 8 then -1 else if a = 18 ∧ k = 0 then 9 else if a = 18 ∧ k = 1 then -1 else if a = 23 then 26 + k else if a = 83 ∧ k = 32 then -1 else 0
/-- a stretch of a row is written -/
def upR (m : Mm) (a : Nat) (lo hi : Int) (f : Int → Int) : Mm := fun b j => if b = a ∧ lo ≤ j ∧ j < hi then f j else m b j
theorem upR_in {m : Mm} {a : Nat} {lo hi j : Int} {f : Int → Int} (h : lo ≤ j ∧ j < hi) : upR m a lo hi f a j = f j := by unfold upR; rw [if_pos ⟨rfl, h⟩]
theorem upR_off {m : Mm} {a b : Nat} {lo hi : Int} {f : Int → Int} (h : b ≠ a) : upR m a lo hi f b = m b := by funext j; unfold upR; rw [if_neg (fun e => h e.1)]
theorem upR_out {m : Mm} {a b : Nat} {lo hi j : Int} {f : Int → Int} (h : j < lo ∨ hi ≤ j) : upR m a lo hi f b j = m b j := by unfold upR; rw [if_neg (fun e => by omega)]
section Rows4
variable {g : aPg} {d mi mL : Nat} {ini : Bool} {V : aS → Prop} {pc pc' : Nat} {L : aL} {S r : List Value} {w : aW} {n : Nat} {sh : List Sh} {m : Mm}
theorem r_nat (hV : Clo g (d + 1) mi mL ini V) {i : Instr} {y : aX × aW} (hC : pC g mi pc = some (i, 3)) (h3 : iL i = 3) (hL : L.length = mL) (h0 : s0 g mi ini i 3 (pc, L, S, w, n) = none) (hc : sC g mi i (pc, L, S, w, n) = none) (hp : sP (pL g mi) (pE g) i pc L S w = some y) (k : V (y.1.1, y.1.2.1, y.1.2.2, y.2, n)) : V (pc, L, S, w, n) := by
  refine hV _ _ _ _ 0 hC ?_ k
  unfold st1
  rw [h0]
  dsimp only
  rw [if_pos h3, if_pos hL, hc]
  dsimp only
  rw [hp]
theorem r_natS (hV : Clo g (d + 1) mi mL ini V) {idx kq : Nat} {zq : Int} {y : aX × aW} (hC : pC g mi pc = some (.invokestatic idx, 3)) (hl : pL g mi idx = some (7, kq, zq)) (hL : L.length = mL) (hp : sP (pL g mi) (pE g) (.invokestatic idx) pc L S w = some y) (k : V (y.1.1, y.1.2.1, y.1.2.2, y.2, n)) : V (pc, L, S, w, n) := by
  refine r_nat hV hC rfl hL (by simp [s0, sQ, sA, sB, sI, sJ, sG, sH, sM, sN, iL]) ?_ hp k
  unfold sC
  dsimp only
  rw [hl]
  rfl
theorem tt_max (hV : Clo g (d + 1) mi mL ini V) {idx : Nat} {zq x y : Int} (hC : pC g mi pc = some (.invokestatic idx, 3)) (hl : pL g mi idx = some (7, 2, zq)) (hL : L.length = mL) (hx : -2147483648 ≤ x ∧ x < 2147483648) (hy : -2147483648 ≤ y ∧ y < 2147483648) (hcat : (r.map fun v => v.category).sum ≤ 8) (hp : pc + 3 = pc') (k : V (pc', L, vI (max x y) :: r, w, n)) : V (pc, L, vI y :: vI x :: r, w, n) := by
  subst hp
  have e : (if Int32.ofInt x < Int32.ofInt y then Int32.ofInt y else Int32.ofInt x) = Int32.ofInt (max x y) := by
    by_cases h : x < y
    · rw [if_pos ((i32_lt hx hy).mpr h)]
      congr 1
      omega
    · rw [if_neg (fun q => h ((i32_lt hx hy).mp q))]
      congr 1
      omega
  refine r_natS hV hC hl hL (y := ((pc + 3, L, vI (max x y) :: r), w)) ?_ k
  simp only [sP, hl, e, if_neg (Nat.not_lt.mpr hcat)]
  rfl
theorem tt_min (hV : Clo g (d + 1) mi mL ini V) {idx : Nat} {zq x y : Int} (hC : pC g mi pc = some (.invokestatic idx, 3)) (hl : pL g mi idx = some (7, 3, zq)) (hL : L.length = mL) (hx : -2147483648 ≤ x ∧ x < 2147483648) (hy : -2147483648 ≤ y ∧ y < 2147483648) (hcat : (r.map fun v => v.category).sum ≤ 8) (hp : pc + 3 = pc') (k : V (pc', L, vI (min x y) :: r, w, n)) : V (pc, L, vI y :: vI x :: r, w, n) := by
  subst hp
  have e : (if Int32.ofInt y < Int32.ofInt x then Int32.ofInt y else Int32.ofInt x) = Int32.ofInt (min x y) := by
    by_cases h : y < x
    · rw [if_pos ((i32_lt hy hx).mpr h)]
      congr 1
      omega
    · rw [if_neg (fun q => h ((i32_lt hy hx).mp q))]
      congr 1
      omega
  refine r_natS hV hC hl hL (y := ((pc + 3, L, vI (min x y) :: r), w)) ?_ k
  simp only [sP, hl, e, if_neg (Nat.not_lt.mpr hcat)]
  rfl
theorem aCp_fun {l0 l1 : Nat} {f h : Int → Int} {xs : List Int32} {sp dp k : Nat} (hx : ∀ j : Nat, j < l0 → xs[j]? = some (Int32.ofInt (f j))) (h1 : sp + k ≤ l0) (hl0 : xs.length = l0) (h2 : dp + k ≤ l1) : aCp xs (aInts l1 h) sp dp k = aInts l1 (fun j => if (dp : Int) ≤ j ∧ j < dp + k then f (j - dp + sp) else h j) := by
  have hlen : (aInts l1 h).length = l1 := aInts_len _ _
  apply List.ext_getElem?
  intro j
  unfold aCp
  have e1 : ((aInts l1 h).take dp).length = dp := by rw [List.length_take]; omega
  have e2 : ((xs.drop sp).take k).length = k := by rw [List.length_take, List.length_drop]; omega
  have q : ∀ (F : Int → Int) (j : Nat), (aInts l1 F)[j]? = if j < l1 then some (Int32.ofInt (F j)) else none := by
    intro F j
    unfold aInts
    rw [List.getElem?_map]
    split
    next hj => rw [List.getElem?_range hj]; rfl
    next hj => rw [List.getElem?_eq_none (by simp; omega)]; rfl
  rw [q]
  by_cases c1 : j < dp
  · rw [List.getElem?_append_left (by omega), List.getElem?_take, if_pos c1, q, if_pos (by omega), if_pos (by omega), if_neg (by omega)]
  · by_cases c2 : j < dp + k
    · rw [List.getElem?_append_right (by omega), e1, List.getElem?_append_left (by omega), List.getElem?_take, if_pos (by omega), List.getElem?_drop, hx _ (by omega), if_pos (by omega), if_pos (by omega)]
      congr 3
      omega
    · rw [List.getElem?_append_right (by omega), e1, List.getElem?_append_right (by omega), e2, List.getElem?_drop, q]
      have e3 : dp + k + (j - dp - k) = j := by omega
      rw [e3]
      split
      · rw [if_neg (by omega)]
      · rfl
theorem copy_core (hV : Clo g (d + 1) mi mL ini V) {idx a l0 l1 a0 : Nat} {zq sp dp k : Int} {f : Int → Int} {xs : List Int32} (hC : pC g mi pc = some (.invokestatic idx, 3)) (hl : pL g mi idx = some (7, 0, zq)) (hL : L.length = mL) (hsrc : aSrc (Wd sh m) (pE g) a0 = some xs) (hxl : xs.length = l0) (hx : ∀ j : Nat, j < l0 → xs[j]? = some (Int32.ofInt (f j))) (hs : sh[a]? = some (.inr (.inl (0, l1)))) (hl0 : l0 ≤ 100000) (hl1 : l1 ≤ 100000) (h1 : 0 ≤ sp ∧ sp + k ≤ l0) (h2 : 0 ≤ dp ∧ dp + k ≤ l1) (h3 : 0 ≤ k) (hcat : (r.map fun v => v.category).sum ≤ 8) (hp : pc + 3 = pc') (kk : V (pc', L, r, Wd sh (upR m a dp (dp + k) (fun j => f (j - dp + sp))), n)) : V (pc, L, vI k :: vI dp :: .ref a :: vI sp :: .ref a0 :: r, Wd sh m, n) := by
  subst hp
  refine r_natS hV hC hl hL (y := ((pc + 3, L, r), Wd sh (upR m a dp (dp + k) (fun j => f (j - dp + sp))))) ?_ kk
  simp only [sP, hl]
  rw [if_pos trivial, hsrc]
  dsimp only
  rw [Wd_get hs]
  have e0 : mkC (.inr (.inl (0, l1))) (m a) = some (.inl (.int, .inl (aInts l1 (m a)))) := rfl
  rw [e0]
  dsimp only
  have z0 : ∀ z : Int, 0 ≤ z → z < 2147483648 → ¬ (Int32.ofInt z < 0) := fun z q1 q2 => by rw [i32_0, i32_lt (by omega) (by omega)]; omega
  rw [if_neg]
  · rw [i32_n (by omega), i32_n (by omega), i32_n (by omega), aCp_fun hx (by omega) hxl (by omega)]
    congr 2
    have hF : ∀ F, mkA 0 l1 F = .inl (.int, .inl (aInts l1 F)) := fun F => rfl
    refine Wd_set hs ?_ (fun b hb => upR_off hb)
    show some (.inl (.int, .inl (aInts l1 _))) = some (mkA 0 l1 _)
    rw [hF]
    congr 4
    apply congrArg (aInts l1)
    funext j
    unfold upR
    by_cases c : (dp : Int) ≤ j ∧ j < dp + k
    · rw [if_pos (by omega), if_pos ⟨rfl, c⟩]
      congr 1
      omega
    · rw [if_neg (by omega), if_neg (fun q => c q.2)]
  · rintro (q | q | q | q | q | q)
    · exact z0 sp h1.1 (by omega) q
    · exact z0 dp h2.1 (by omega) q
    · exact z0 k h3 (by omega) q
    · rw [hxl, i32_n (by omega), i32_n (by omega)] at q; omega
    · rw [aInts_len, i32_n (by omega), i32_n (by omega)] at q; omega
    · omega
theorem tt_copy (hV : Clo g (d + 1) mi mL ini V) {idx a l0 l1 a0 : Nat} {zq sp dp k : Int} (hC : pC g mi pc = some (.invokestatic idx, 3)) (hl : pL g mi idx = some (7, 0, zq)) (hL : L.length = mL) (hs0 : sh[a0]? = some (.inr (.inl (0, l0)))) (hs : sh[a]? = some (.inr (.inl (0, l1)))) (hl0 : l0 ≤ 100000) (hl1 : l1 ≤ 100000) (h1 : 0 ≤ sp ∧ sp + k ≤ l0) (h2 : 0 ≤ dp ∧ dp + k ≤ l1) (h3 : 0 ≤ k) (hcat : (r.map fun v => v.category).sum ≤ 8) (hp : pc + 3 = pc') (kk : V (pc', L, r, Wd sh (upR m a dp (dp + k) (fun j => m a0 (j - dp + sp))), n)) : V (pc, L, vI k :: vI dp :: .ref a :: vI sp :: .ref a0 :: r, Wd sh m, n) := by
  refine copy_core hV hC hl hL (xs := aInts l0 (m a0)) (f := m a0) ?_ (aInts_len _ _) (fun j hj => ?_) hs hl0 hl1 h1 h2 h3 hcat hp kk
  · unfold aSrc
    rw [Wd_get hs0]
    rfl
  · unfold aInts
    rw [List.getElem?_map, List.getElem?_range hj]
    rfl
theorem tt_copyX (hV : Clo g (d + 1) mi mL ini V) {idx a l1 a0 : Nat} {zq sp dp k : Int} {xs : List Int32} (hC : pC g mi pc = some (.invokestatic idx, 3)) (hl : pL g mi idx = some (7, 0, zq)) (hL : L.length = mL) (hw : sh.length ≤ a0) (he : pE g a0 = some (.inl xs)) (hs : sh[a]? = some (.inr (.inl (0, l1)))) (hl0 : xs.length ≤ 100000) (hl1 : l1 ≤ 100000) (h1 : 0 ≤ sp ∧ sp + k ≤ xs.length) (h2 : 0 ≤ dp ∧ dp + k ≤ l1) (h3 : 0 ≤ k) (hcat : (r.map fun v => v.category).sum ≤ 8) (hp : pc + 3 = pc') (kk : V (pc', L, r, Wd sh (upR m a dp (dp + k) (fun j => (xs.getD (j - dp + sp).toNat 0).toInt)), n)) : V (pc, L, vI k :: vI dp :: .ref a :: vI sp :: .ref a0 :: r, Wd sh m, n) := by
  refine copy_core hV hC hl hL (xs := xs) (f := fun j => (xs.getD j.toNat 0).toInt) ?_ rfl (fun j hj => ?_) hs hl0 hl1 h1 h2 h3 hcat hp kk
  · unfold aSrc
    rw [Wd_none hw]
    dsimp only
    rw [he]
  · show _ = some (Int32.ofInt (xs.getD ((j : Int)).toNat 0).toInt)
    rw [Int32.ofInt_toInt, Int.toNat_natCast, List.getElem?_eq_getElem hj, List.getD_eq_getElem?_getD, List.getElem?_eq_getElem hj]
    rfl
/-- a number of an array outside -/
theorem tt_ieald (hV : Clo g d mi mL ini V) {a : Nat} {j : Int} {xs : List Int32} {v : Int} (hC : pC g mi pc = some (.iaload, 1)) (hw : sh.length ≤ a) (he : pE g a = some (.inl xs)) (hl : xs.length ≤ 100000) (hj : 0 ≤ j ∧ j < xs.length) (hv : (xs.getD j.toNat 0).toInt = v) (hp : pc + 1 = pc') (k : V (pc', L, vI v :: r, Wd sh m, n)) : V (pc, L, vI j :: .ref a :: r, Wd sh m, n) := by
  subst hv
  refine r_ieald hV hC (Wd_none hw) he (v := Int32.ofInt (xs.getD j.toNat 0).toInt) ?_ hp k
  unfold aIx
  rw [if_neg (by rw [i32_0, i32_lt (by omega) (by omega)]; omega), i32_n (by omega), Int32.ofInt_toInt, List.getElem?_eq_getElem (by omega), List.getD_eq_getElem?_getD, List.getElem?_eq_getElem (by omega)]
  rfl
/-- a reference out of an array -/
theorem tt_aald (hV : Clo g d mi mL ini V) {a len t b : Nat} {j : Int} (hC : pC g mi pc = some (.aaload, 1)) (hs : sh[a]? = some (.inr (.inl (t, len)))) (ht : t = 4 ∨ t = 5) (ho : "SledgeVote$Law" ∈ pO g ∧ "SledgeVote$State" ∈ pO g) (hl : len ≤ 100000) (hj : 0 ≤ j ∧ j < len) (hb : m a j = (b : Int)) (hp : pc + 1 = pc') (k : V (pc', L, .ref b :: r, Wd sh m, n)) : V (pc, L, vI j :: .ref a :: r, Wd sh m, n) := by
  have e : (if m a j < 0 then none else some (m a j).toNat) = some b := by rw [hb, if_neg (by omega)]; simp
  rcases ht with rfl | rfl
  · exact r_aald hV hC (Wd_get hs) (aIx_ref hj hl) ho.1 hp (by rw [e]; exact k)
  · exact r_aald hV hC (Wd_get hs) (aIx_ref hj hl) ho.2 hp (by rw [e]; exact k)

theorem tt_lstore0 (hV : Clo g d mi mL ini V) {x : Int} {b b2 : Option Value} (hC : pC g mi pc = some (.lstore_n 0, 1)) (hq : aKl (b :: b2 :: L) 0 = b :: b2 :: L) (hp : pc + 1 = pc') (k : V (pc', some (vJ x) :: none :: L, r, w, n)) : V (pc, b :: b2 :: L, vJ x :: r, w, n) := r_lstore_n hV hC (Nat.le_of_ble_eq_true rfl) (by unfold aSt2; first | rw [hq]; rfl | (show List.set (List.set (aKl _ 0) _ _) 0 _ = _; rw [hq]; rfl)) hp k
theorem tt_lstore1 (hV : Clo g d mi mL ini V) {x : Int} {a0 b b2 : Option Value} (hC : pC g mi pc = some (.lstore_n 1, 1)) (hq : aKl (a0 :: b :: b2 :: L) 1 = a0 :: b :: b2 :: L) (hp : pc + 1 = pc') (k : V (pc', a0 :: some (vJ x) :: none :: L, r, w, n)) : V (pc, a0 :: b :: b2 :: L, vJ x :: r, w, n) := r_lstore_n hV hC (Nat.le_of_ble_eq_true rfl) (by unfold aSt2; first | rw [hq]; rfl | (show List.set (List.set (aKl _ 1) _ _) 1 _ = _; rw [hq]; rfl)) hp k
theorem tt_lstore2 (hV : Clo g d mi mL ini V) {x : Int} {a0 a1 b b2 : Option Value} (hC : pC g mi pc = some (.lstore_n 2, 1)) (hq : aKl (a0 :: a1 :: b :: b2 :: L) 2 = a0 :: a1 :: b :: b2 :: L) (hp : pc + 1 = pc') (k : V (pc', a0 :: a1 :: some (vJ x) :: none :: L, r, w, n)) : V (pc, a0 :: a1 :: b :: b2 :: L, vJ x :: r, w, n) := r_lstore_n hV hC (Nat.le_of_ble_eq_true rfl) (by unfold aSt2; first | rw [hq]; rfl | (show List.set (List.set (aKl _ 2) _ _) 2 _ = _; rw [hq]; rfl)) hp k
theorem tt_lstore3 (hV : Clo g d mi mL ini V) {x : Int} {a0 a1 a2 b b2 : Option Value} (hC : pC g mi pc = some (.lstore_n 3, 1)) (hq : aKl (a0 :: a1 :: a2 :: b :: b2 :: L) 3 = a0 :: a1 :: a2 :: b :: b2 :: L) (hp : pc + 1 = pc') (k : V (pc', a0 :: a1 :: a2 :: some (vJ x) :: none :: L, r, w, n)) : V (pc, a0 :: a1 :: a2 :: b :: b2 :: L, vJ x :: r, w, n) := r_lstore_n hV hC (Nat.le_of_ble_eq_true rfl) (by unfold aSt2; first | rw [hq]; rfl | (show List.set (List.set (aKl _ 3) _ _) 3 _ = _; rw [hq]; rfl)) hp k
theorem tt_lstore4 (hV : Clo g d mi mL ini V) {x : Int} {a0 a1 a2 a3 b b2 : Option Value} (hC : pC g mi pc = some (.lstore 4, 2)) (hq : aKl (a0 :: a1 :: a2 :: a3 :: b :: b2 :: L) 4 = a0 :: a1 :: a2 :: a3 :: b :: b2 :: L) (hp : pc + 2 = pc') (k : V (pc', a0 :: a1 :: a2 :: a3 :: some (vJ x) :: none :: L, r, w, n)) : V (pc, a0 :: a1 :: a2 :: a3 :: b :: b2 :: L, vJ x :: r, w, n) := r_lstore hV hC (Nat.le_of_ble_eq_true rfl) (by unfold aSt2; first | rw [hq]; rfl | (show List.set (List.set (aKl _ 4) _ _) 4 _ = _; rw [hq]; rfl)) hp k
theorem tt_lstore5 (hV : Clo g d mi mL ini V) {x : Int} {a0 a1 a2 a3 a4 b b2 : Option Value} (hC : pC g mi pc = some (.lstore 5, 2)) (hq : aKl (a0 :: a1 :: a2 :: a3 :: a4 :: b :: b2 :: L) 5 = a0 :: a1 :: a2 :: a3 :: a4 :: b :: b2 :: L) (hp : pc + 2 = pc') (k : V (pc', a0 :: a1 :: a2 :: a3 :: a4 :: some (vJ x) :: none :: L, r, w, n)) : V (pc, a0 :: a1 :: a2 :: a3 :: a4 :: b :: b2 :: L, vJ x :: r, w, n) := r_lstore hV hC (Nat.le_of_ble_eq_true rfl) (by unfold aSt2; first | rw [hq]; rfl | (show List.set (List.set (aKl _ 5) _ _) 5 _ = _; rw [hq]; rfl)) hp k
theorem tt_lstore6 (hV : Clo g d mi mL ini V) {x : Int} {a0 a1 a2 a3 a4 a5 b b2 : Option Value} (hC : pC g mi pc = some (.lstore 6, 2)) (hq : aKl (a0 :: a1 :: a2 :: a3 :: a4 :: a5 :: b :: b2 :: L) 6 = a0 :: a1 :: a2 :: a3 :: a4 :: a5 :: b :: b2 :: L) (hp : pc + 2 = pc') (k : V (pc', a0 :: a1 :: a2 :: a3 :: a4 :: a5 :: some (vJ x) :: none :: L, r, w, n)) : V (pc, a0 :: a1 :: a2 :: a3 :: a4 :: a5 :: b :: b2 :: L, vJ x :: r, w, n) := r_lstore hV hC (Nat.le_of_ble_eq_true rfl) (by unfold aSt2; first | rw [hq]; rfl | (show List.set (List.set (aKl _ 6) _ _) 6 _ = _; rw [hq]; rfl)) hp k
theorem tt_lstore7 (hV : Clo g d mi mL ini V) {x : Int} {a0 a1 a2 a3 a4 a5 a6 b b2 : Option Value} (hC : pC g mi pc = some (.lstore 7, 2)) (hq : aKl (a0 :: a1 :: a2 :: a3 :: a4 :: a5 :: a6 :: b :: b2 :: L) 7 = a0 :: a1 :: a2 :: a3 :: a4 :: a5 :: a6 :: b :: b2 :: L) (hp : pc + 2 = pc') (k : V (pc', a0 :: a1 :: a2 :: a3 :: a4 :: a5 :: a6 :: some (vJ x) :: none :: L, r, w, n)) : V (pc, a0 :: a1 :: a2 :: a3 :: a4 :: a5 :: a6 :: b :: b2 :: L, vJ x :: r, w, n) := r_lstore hV hC (Nat.le_of_ble_eq_true rfl) (by unfold aSt2; first | rw [hq]; rfl | (show List.set (List.set (aKl _ 7) _ _) 7 _ = _; rw [hq]; rfl)) hp k
theorem tt_lstore8 (hV : Clo g d mi mL ini V) {x : Int} {a0 a1 a2 a3 a4 a5 a6 a7 b b2 : Option Value} (hC : pC g mi pc = some (.lstore 8, 2)) (hq : aKl (a0 :: a1 :: a2 :: a3 :: a4 :: a5 :: a6 :: a7 :: b :: b2 :: L) 8 = a0 :: a1 :: a2 :: a3 :: a4 :: a5 :: a6 :: a7 :: b :: b2 :: L) (hp : pc + 2 = pc') (k : V (pc', a0 :: a1 :: a2 :: a3 :: a4 :: a5 :: a6 :: a7 :: some (vJ x) :: none :: L, r, w, n)) : V (pc, a0 :: a1 :: a2 :: a3 :: a4 :: a5 :: a6 :: a7 :: b :: b2 :: L, vJ x :: r, w, n) := r_lstore hV hC (Nat.le_of_ble_eq_true rfl) (by unfold aSt2; first | rw [hq]; rfl | (show List.set (List.set (aKl _ 8) _ _) 8 _ = _; rw [hq]; rfl)) hp k
theorem tt_lstore9 (hV : Clo g d mi mL ini V) {x : Int} {a0 a1 a2 a3 a4 a5 a6 a7 a8 b b2 : Option Value} (hC : pC g mi pc = some (.lstore 9, 2)) (hq : aKl (a0 :: a1 :: a2 :: a3 :: a4 :: a5 :: a6 :: a7 :: a8 :: b :: b2 :: L) 9 = a0 :: a1 :: a2 :: a3 :: a4 :: a5 :: a6 :: a7 :: a8 :: b :: b2 :: L) (hp : pc + 2 = pc') (k : V (pc', a0 :: a1 :: a2 :: a3 :: a4 :: a5 :: a6 :: a7 :: a8 :: some (vJ x) :: none :: L, r, w, n)) : V (pc, a0 :: a1 :: a2 :: a3 :: a4 :: a5 :: a6 :: a7 :: a8 :: b :: b2 :: L, vJ x :: r, w, n) := r_lstore hV hC (Nat.le_of_ble_eq_true rfl) (by unfold aSt2; first | rw [hq]; rfl | (show List.set (List.set (aKl _ 9) _ _) 9 _ = _; rw [hq]; rfl)) hp k
theorem tt_lstore10 (hV : Clo g d mi mL ini V) {x : Int} {a0 a1 a2 a3 a4 a5 a6 a7 a8 a9 b b2 : Option Value} (hC : pC g mi pc = some (.lstore 10, 2)) (hq : aKl (a0 :: a1 :: a2 :: a3 :: a4 :: a5 :: a6 :: a7 :: a8 :: a9 :: b :: b2 :: L) 10 = a0 :: a1 :: a2 :: a3 :: a4 :: a5 :: a6 :: a7 :: a8 :: a9 :: b :: b2 :: L) (hp : pc + 2 = pc') (k : V (pc', a0 :: a1 :: a2 :: a3 :: a4 :: a5 :: a6 :: a7 :: a8 :: a9 :: some (vJ x) :: none :: L, r, w, n)) : V (pc, a0 :: a1 :: a2 :: a3 :: a4 :: a5 :: a6 :: a7 :: a8 :: a9 :: b :: b2 :: L, vJ x :: r, w, n) := r_lstore hV hC (Nat.le_of_ble_eq_true rfl) (by unfold aSt2; first | rw [hq]; rfl | (show List.set (List.set (aKl _ 10) _ _) 10 _ = _; rw [hq]; rfl)) hp k
theorem tt_lstore11 (hV : Clo g d mi mL ini V) {x : Int} {a0 a1 a2 a3 a4 a5 a6 a7 a8 a9 a10 b b2 : Option Value} (hC : pC g mi pc = some (.lstore 11, 2)) (hq : aKl (a0 :: a1 :: a2 :: a3 :: a4 :: a5 :: a6 :: a7 :: a8 :: a9 :: a10 :: b :: b2 :: L) 11 = a0 :: a1 :: a2 :: a3 :: a4 :: a5 :: a6 :: a7 :: a8 :: a9 :: a10 :: b :: b2 :: L) (hp : pc + 2 = pc') (k : V (pc', a0 :: a1 :: a2 :: a3 :: a4 :: a5 :: a6 :: a7 :: a8 :: a9 :: a10 :: some (vJ x) :: none :: L, r, w, n)) : V (pc, a0 :: a1 :: a2 :: a3 :: a4 :: a5 :: a6 :: a7 :: a8 :: a9 :: a10 :: b :: b2 :: L, vJ x :: r, w, n) := r_lstore hV hC (Nat.le_of_ble_eq_true rfl) (by unfold aSt2; first | rw [hq]; rfl | (show List.set (List.set (aKl _ 11) _ _) 11 _ = _; rw [hq]; rfl)) hp k
end Rows4
/-- the method answers a number, and what holds of it and of the memory then -/
def Rq (g : aPg) (d mi : Nat) (sh : List Sh) (n : Nat) (Q : Int → Mm → Prop) (x : aS) : Prop := ∃ v m', Q v m' ∧ Ru g d mi (some (vI v), Wd sh m', n) x
def Ru0 (g : aPg) (d mi : Nat) (sh : List Sh) (n : Nat) (Q : Mm → Prop) (x : aS) : Prop := ∃ m', Q m' ∧ Ru g d mi (none, Wd sh m', n) x
theorem Rq_clo {g : aPg} {d mi n : Nat} {sh : List Sh} {Q : Int → Mm → Prop} {q : aMI} (hq : pI g mi = some q) : Clo g d mi q.2.2.1 q.2.2.2.2.2.2 (Rq g d mi sh n Q) := by
  intro x y i len f h1 h2 ⟨v, m', h3, h4⟩
  exact ⟨v, m', h3, Ru_clo hq x y i len f h1 h2 h4⟩
theorem Ru0_clo {g : aPg} {d mi n : Nat} {sh : List Sh} {Q : Mm → Prop} {q : aMI} (hq : pI g mi = some q) : Clo g d mi q.2.2.1 q.2.2.2.2.2.2 (Ru0 g d mi sh n Q) := by
  intro x y i len f h1 h2 ⟨m', h3, h4⟩
  exact ⟨m', h3, Ru_clo hq x y i len f h1 h2 h4⟩
theorem rq_ret {g : aPg} {d mi n pc : Nat} {sh : List Sh} {m : Mm} {L : aL} {Q : Int → Mm → Prop} {v : Int} {q : aMI} (hq : pI g mi = some q) (hC : pC g mi pc = some (.ireturn, 1)) (hr : sR q.2.2.2.1 .ireturn [vI v] = some (some (vI v))) (h : Q v m) : Rq g d mi sh n Q (pc, L, [vI v], Wd sh m, n) := ⟨v, m, h, Ru_ret hq hC hr⟩
theorem ru0_ret {g : aPg} {d mi n pc : Nat} {sh : List Sh} {m : Mm} {L : aL} {Q : Mm → Prop} {q : aMI} (hq : pI g mi = some q) (hC : pC g mi pc = some (.return_, 1)) (hr : sR q.2.2.2.1 .return_ [] = some none) (h : Q m) : Ru0 g d mi sh n Q (pc, L, [], Wd sh m, n) := ⟨m, h, Ru_ret hq hC hr⟩
theorem vI_c {a b : Int} {w : aW} {n : Nat} (h : a = b) : ((some (vI a), w, n) : Option Value × aW × Nat) = (some (vI b), w, n) := by rw [h]
/-- a boolean answer: what it returns is 0 or 1 -/
theorem sR_bool {v : Int} (h : v = 0 ∨ v = 1) : sR (some .boolean) .ireturn [vI v] = some (some (vI v)) := by
  rcases h with rfl | rfl <;> rfl

