/-! ===== seating: the two sequences of orders ===== -/
def fnL (L : List Int) : Int → Int := fun i => L.getD i.toNat 0
def lstF (n : Nat) (f : Int → Int) : List Int := (List.range n).map (fun i : Nat => f (i : Int))
def nxL (n : Nat) (L : List Int) : List Int := lstF n (nxF n (fnL L))
def itL (n : Nat) : Nat → List Int → List (List Int)
  | 0, _ => []
  | k + 1, L => L :: itL n k (nxL n L)
/-- the reference's: the members left, in their order -/
def dfL (n : Nat) : Nat → Int → List (List Int)
  | 0, _ => [[]]
  | f + 1, y => (List.range n).flatMap fun l : Nat => if bit y (l : Int) = 1 then (dfL n f (iA y (iX (iSl 1 (l : Int)) (-1)))).map (fun r => (l : Int) :: r) else []
def fcN : Nat → Nat
  | 0 => 1
  | k + 1 => fcN k * (k + 1)
theorem swp_cg {n : Nat} {f g : Int → Int} {x y : Int} (h : ∀ j, 0 ≤ j → j < (n : Int) → f j = g j) (hx : 0 ≤ x ∧ x < (n : Int)) (hy : 0 ≤ y ∧ y < (n : Int)) : ∀ j, 0 ≤ j → j < (n : Int) → swp f x y j = swp g x y j := by
  intro j h1 h2
  unfold swp
  rw [h x hx.1 hx.2, h y hy.1 hy.2, h j h1 h2]
theorem fdA_cg {n : Nat} {f g : Int → Int} (h : ∀ j, 0 ≤ j → j < (n : Int) → f j = g j) : ∀ k : Nat, k < n → fdA f k = fdA g k
  | 0, _ => rfl
  | k + 1, hk => by
    show (if f k ≤ f ((k : Int) + 1) then (k : Int) else fdA f k) = (if g k ≤ g ((k : Int) + 1) then (k : Int) else fdA g k)
    rw [h k (by omega) (by omega), h ((k : Int) + 1) (by omega) (by omega), fdA_cg h k (by omega)]
theorem fdB_cg {n : Nat} {f g : Int → Int} {l2 : Int} (h : ∀ j, 0 ≤ j → j < (n : Int) → f j = g j) (hl : 0 ≤ l2 ∧ l2 < (n : Int)) : ∀ k : Nat, k < n → fdB f l2 k = fdB g l2 k
  | 0, _ => rfl
  | k + 1, hk => by
    show (if ((k + 1 : Nat) : Int) ≤ l2 then ((k + 1 : Nat) : Int) else if f l2 ≤ f ((k + 1 : Nat) : Int) then ((k + 1 : Nat) : Int) else fdB f l2 k) = (if ((k + 1 : Nat) : Int) ≤ l2 then ((k + 1 : Nat) : Int) else if g l2 ≤ g ((k + 1 : Nat) : Int) then ((k + 1 : Nat) : Int) else fdB g l2 k)
    rw [h l2 hl.1 hl.2, h ((k + 1 : Nat) : Int) (by omega) (by omega), fdB_cg h hl k (by omega)]
theorem rvF_cg {n : Nat} : ∀ (k : Nat) (f g : Int → Int) (a b : Int), (∀ j, 0 ≤ j → j < (n : Int) → f j = g j) → 0 ≤ a → b < (n : Int) → ∀ j, 0 ≤ j → j < (n : Int) → rvF k f a b j = rvF k g a b j
  | 0, f, g, a, b, h, _, _ => h
  | k + 1, f, g, a, b, h, ha, hb => by
    intro j h1 h2
    show (if b ≤ a then f else rvF k (swp f a b) (a + 1) (b - 1)) j = (if b ≤ a then g else rvF k (swp g a b) (a + 1) (b - 1)) j
    by_cases z : b ≤ a
    · rw [if_pos z, if_pos z]; exact h j h1 h2
    · rw [if_neg z, if_neg z]
      exact rvF_cg k _ _ _ _ (swp_cg h (by omega) (by omega)) (by omega) (by omega) j h1 h2
theorem nxF_cg {n : Nat} (hn : 1 ≤ n) {f g : Int → Int} (h : ∀ j, 0 ≤ j → j < (n : Int) → f j = g j) : ∀ j, 0 ≤ j → j < (n : Int) → nxF n f j = nxF n g j := by
  intro j h1 h2
  have ha := fdA_r g (n - 1)
  have hb := fdB_r g (fdA g (n - 1)) (n - 1)
  unfold nxF
  rw [fdA_cg h (n - 1) (by omega)]
  by_cases z : fdA g (n - 1) < 0
  · rw [if_pos z, if_pos z]; exact h j h1 h2
  · rw [if_neg z, if_neg z, fdB_cg h (by omega) (n - 1) (by omega)]
    exact rvF_cg n _ _ _ _ (swp_cg h (by omega) (by omega)) (by omega) (by omega) j h1 h2
theorem fnL_lst {n : Nat} {f : Int → Int} : ∀ j, 0 ≤ j → j < (n : Int) → fnL (lstF n f) j = f j := by
  intro j h1 h2
  unfold fnL lstF
  rw [List.getD_eq_getElem?_getD, List.getElem?_map, List.getElem?_range (by omega)]
  show f ((j.toNat : Nat) : Int) = f j
  rw [show ((j.toNat : Nat) : Int) = j by omega]
theorem ord_1 : itL 1 1 [0] = dfL 1 1 1 := by decide +kernel
theorem ord_2 : itL 2 2 [0, 1] = dfL 2 2 3 := by decide +kernel
theorem ord_3 : itL 3 6 [0, 1, 2] = dfL 3 3 7 := by decide +kernel
theorem ord_4 : itL 4 24 [0, 1, 2, 3] = dfL 4 4 15 := by decide +kernel
theorem ord_5 : itL 5 120 [0, 1, 2, 3, 4] = dfL 5 5 31 := by decide +kernel
set_option maxRecDepth 100000 in
theorem ord_6 : itL 6 720 [0, 1, 2, 3, 4, 5] = dfL 6 6 63 := by decide +kernel
theorem ord_n {n : Nat} (hn : 1 ≤ n ∧ n ≤ 6) : itL n (fcN n) (lstF n (fun i => i)) = dfL n n (pw (n : Int) - 1) := by
  have : n = 1 ∨ n = 2 ∨ n = 3 ∨ n = 4 ∨ n = 5 ∨ n = 6 := by omega
  rcases this with rfl | rfl | rfl | rfl | rfl | rfl
  · exact ord_1
  · exact ord_2
  · exact ord_3
  · exact ord_4
  · exact ord_5
  · exact ord_6
