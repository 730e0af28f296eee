/-! ===== seating: the class's next order ===== -/
def swp (f : Int → Int) (x y : Int) : Int → Int := fun j => if j = y then f x else if j = x then f y else f j
def fdA (f : Int → Int) : Nat → Int
  | 0 => -1
  | k + 1 => if f k ≤ f ((k : Int) + 1) then k else fdA f k
def fdB (f : Int → Int) (l2 : Int) : Nat → Int
  | 0 => 0
  | k + 1 => if ((k + 1 : Nat) : Int) ≤ l2 then ((k + 1 : Nat) : Int) else if f l2 ≤ f ((k + 1 : Nat) : Int) then ((k + 1 : Nat) : Int) else fdB f l2 k
def rvF : Nat → (Int → Int) → Int → Int → Int → Int
  | 0, f, _, _ => f
  | k + 1, f, a, b => if b ≤ a then f else rvF k (swp f a b) (a + 1) (b - 1)
def nxF (n : Nat) (f : Int → Int) : Int → Int := if fdA f (n - 1) < 0 then f else rvF n (swp f (fdA f (n - 1)) (fdB f (fdA f (n - 1)) (n - 1))) (fdA f (n - 1) + 1) ((n : Int) - 1)
theorem fdA_r (f : Int → Int) : ∀ k : Nat, -1 ≤ fdA f k ∧ fdA f k < k
  | 0 => by show (-1 : Int) ≤ -1 ∧ (-1 : Int) < ((0 : Nat) : Int); omega
  | k + 1 => by
    have := fdA_r f k
    show -1 ≤ (if f k ≤ f ((k : Int) + 1) then (k : Int) else fdA f k) ∧ (if f k ≤ f ((k : Int) + 1) then (k : Int) else fdA f k) < ((k + 1 : Nat) : Int)
    split <;> omega
theorem fdB_r (f : Int → Int) (l2 : Int) : ∀ k : Nat, 0 ≤ fdB f l2 k ∧ fdB f l2 k ≤ k
  | 0 => by show (0 : Int) ≤ 0 ∧ (0 : Int) ≤ ((0 : Nat) : Int); omega
  | k + 1 => by
    have := fdB_r f l2 k
    show 0 ≤ (if ((k + 1 : Nat) : Int) ≤ l2 then ((k + 1 : Nat) : Int) else if f l2 ≤ f ((k + 1 : Nat) : Int) then ((k + 1 : Nat) : Int) else fdB f l2 k) ∧ (if ((k + 1 : Nat) : Int) ≤ l2 then ((k + 1 : Nat) : Int) else if f l2 ≤ f ((k + 1 : Nat) : Int) then ((k + 1 : Nat) : Int) else fdB f l2 k) ≤ ((k + 1 : Nat) : Int)
    repeat' split
    all_goals omega
section Seat
variable {X : Cx} {d : Nat} {Q0 : Mm → Prop} {n : Nat}
theorem O_swapOrder_c {m : Mm} (hB : Bsh X.2.2.1) {x y : Int} (hx : 0 ≤ x ∧ x < 6) (hy : 0 ≤ y ∧ y < 6) (h : ∀ m', m' 70 = swp (m 70) x y → Fr [70] m m' → Q0 m') : O_swapOrder X d x y m Q0 := by
  refine O_swapOrderw hB ⟨hx, hy, h _ ?_ (((Fr.rf _ _).up (by simp)).up (by simp))⟩
  funext j
  rw [up_at, up_at]
  rfl
theorem O_next_82_c (hB : Bsh X.2.2.1) {l2 l3 : Int} : ∀ (f : Nat) (m : Mm) (l4 l5 : Int), 0 ≤ l4 → l4 ≤ 6 → (-1 ≤ l5 ∧ l5 < 6) → l5 - l4 ≤ f → (∀ m', m' 70 = rvF f (m 70) l4 l5 → Fr [70] m m' → Q0 m') → O_nextOrder_82 X (d + 1) n l2 l3 l4 l5 m Q0 := by
  intro f
  induction f with
  | zero =>
    intro m l4 l5 h4 h46 h5 hf h
    exact O_nextOrder_82w hB ⟨by omega, by omega, fun _ => h m rfl (Fr.rf _ _), fun z => by omega⟩
  | succ f ih =>
    intro m l4 l5 h4 h46 h5 hf h
    have e : rvF (f + 1) (m 70) l4 l5 = if l5 ≤ l4 then m 70 else rvF f (swp (m 70) l4 l5) (l4 + 1) (l5 - 1) := rfl
    refine O_nextOrder_82w hB ⟨by omega, by omega, fun z => h m (by rw [e, if_pos z]) (Fr.rf _ _), fun z => O_swapOrder_c hB (by omega) (by omega) (fun m1 g1 g2 => ih m1 (l4 + 1) (l5 - 1) (by omega) (by omega) (by omega) (by omega) (fun m' w1 w2 => h m' ?_ (g2.tr w2)))⟩
    rw [w1, g1, e, if_neg (by omega)]
theorem O_next_40_c (hB : Bsh X.2.2.1) {m : Mm} (hr : ∀ j, 0 ≤ j → j < (n : Int) → R3 (m 70 j)) {l2 : Int} (hn : n ≤ 6) (hl2 : 0 ≤ l2 ∧ l2 < (n : Int)) : ∀ (k : Nat), k < n → O_nextOrder_66 X (d + 1) n l2 (fdB (m 70) l2 k) m Q0 → O_nextOrder_40 X (d + 1) n l2 k m Q0 := by
  intro k
  induction k with
  | zero =>
    intro hk h
    exact O_nextOrder_40w hB ⟨by omega, by omega, fun _ => h, fun z => by omega⟩
  | succ k ih =>
    intro hk h
    have e : fdB (m 70) l2 (k + 1) = if ((k + 1 : Nat) : Int) ≤ l2 then ((k + 1 : Nat) : Int) else if m 70 l2 ≤ m 70 ((k + 1 : Nat) : Int) then ((k + 1 : Nat) : Int) else fdB (m 70) l2 k := rfl
    rw [e] at h
    have ek : ((k + 1 : Nat) : Int) - 1 = (k : Int) := by omega
    refine O_nextOrder_40w hB ⟨by omega, by omega, fun z => ?_, fun z => ⟨by omega, by omega, hr _ (by omega) (by omega), hr _ (by omega) (by omega), fun z2 => ?_, fun z2 => ?_⟩⟩
    · rw [if_pos z] at h; exact h
    · rw [if_neg (by omega), if_pos z2] at h; exact h
    · rw [if_neg (by omega), if_neg (by omega)] at h
      rw [ek]
      exact ih (by omega) h
theorem O_next_4_c (hB : Bsh X.2.2.1) {m : Mm} (hn : 1 ≤ n ∧ n ≤ 6) (hr : ∀ j, 0 ≤ j → j < (n : Int) → R3 (m 70 j)) : ∀ (k : Nat) (l2 : Int), k < n → l2 = (k : Int) - 1 → (fdA (m 70) k < 0 → Q0 m) → (0 ≤ fdA (m 70) k → O_nextOrder_40 X (d + 1) n (fdA (m 70) k) ((n : Int) - 1) m Q0) → O_nextOrder_4 X (d + 1) n l2 m Q0 := by
  intro k
  induction k with
  | zero =>
    intro l2 hk hl h0 h1
    exact O_nextOrder_4w hB ⟨by omega, fun _ => ⟨fun z => by omega, fun _ => h0 (by show (-1 : Int) < 0; decide)⟩, fun z => by omega⟩
  | succ k ih =>
    intro l2 hk hl h0 h1
    have el : l2 = (k : Int) := by omega
    have e : fdA (m 70) (k + 1) = if m 70 k ≤ m 70 ((k : Int) + 1) then (k : Int) else fdA (m 70) k := rfl
    rw [e] at h0 h1
    subst el
    refine O_nextOrder_4w hB ⟨by omega, fun z => by omega, fun _ => ⟨by omega, by omega, hr _ (by omega) (by omega), hr _ (by omega) (by omega), fun z => ⟨fun z2 => ?_, fun z2 => by omega⟩, fun z => ?_⟩⟩
    · rw [if_pos z] at h1
      exact h1 z2
    · rw [if_neg (by omega)] at h0 h1
      exact ih _ (by omega) rfl h0 h1
theorem O_nextOrder_c (hB : Bsh X.2.2.1) {m : Mm} (hn : 1 ≤ n ∧ n ≤ 6) (hr : ∀ j, 0 ≤ j → j < (n : Int) → R3 (m 70 j)) (h : ∀ m', m' 70 = nxF n (m 70) → Fr [70] m m' → Q0 m') : O_nextOrder X (d + 1) n m Q0 := by
  have ha := fdA_r (m 70) (n - 1)
  have hb := fdB_r (m 70) (fdA (m 70) (n - 1)) (n - 1)
  have en : (n : Int) - 1 = ((n - 1 : Nat) : Int) := by omega
  refine O_nextOrderw hB (O_next_4_c hB hn hr (n - 1) _ (by omega) (by omega) (fun z => h m ?_ (Fr.rf _ _)) (fun z => ?_))
  · unfold nxF
    rw [if_pos z]
  · have e40 := O_next_40_c (X := X) (d := d) (Q0 := Q0) (n := n) hB hr (l2 := fdA (m 70) (n - 1)) (by omega) (by omega) (n - 1) (by omega)
    rw [← en] at e40
    refine e40 (O_nextOrder_66w hB (O_swapOrder_c hB (by omega) (by omega) (fun m1 g1 g2 => O_next_82_c hB n m1 _ _ (by omega) (by omega) (by omega) (by omega) (fun m' w1 w2 => h m' ?_ (g2.tr w2)))))
    rw [w1, g1]
    unfold nxF
    rw [if_neg (by omega)]
end Seat
