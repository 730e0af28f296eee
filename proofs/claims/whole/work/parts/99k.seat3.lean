/-! ===== seating: an order told as seats ===== -/
section Seat3
variable {X : Cx} {d : Nat} {m : Mm} {Q0 : Mm → Prop} {f : Int → Int} {n : Int}
/-- an order: each of the members once -/
def PmF (n : Int) (f : Int → Int) : Prop := (∀ j, 0 ≤ j → j < n → 0 ≤ f j ∧ f j < n) ∧ ∀ i j, 0 ≤ i → i < n → 0 ≤ j → j < n → f i = f j → i = j
theorem O_seats_76_c (hB : Bsh X.2.2.1) (hn : 0 ≤ n ∧ n ≤ 6) (h70 : ∀ j, 0 ≤ j → j < n → m 70 j = f j) (hf : PmF n f) {x l4 l5 : Int} : ∀ (g : Nat) (l6 l7 l8 : Int), 0 ≤ l8 → n - l8 = g → (∀ i, 0 ≤ i → i < l8 → nib l6 (f i) = i) → (∀ P, (∀ i, 0 ≤ i → i < n → nib P (f i) = i) → O_searchSeats_76 X (d + 1) x n l4 l5 P (rowF f g l8 l7) n m Q0) → O_searchSeats_76 X (d + 1) x n l4 l5 l6 l7 l8 m Q0 := by
  intro g
  induction g with
  | zero =>
    intro l6 l7 l8 hl hg hi h
    have e : l8 = n := by omega
    have := h l6 (by rw [← e]; exact hi)
    rw [e]
    exact this
  | succ g ih =>
    intro l6 l7 l8 hl hg hi h
    have hr := hf.1 l8 hl (by omega)
    refine O_searchSeats_76w hB ⟨by omega, by omega, fun z => by omega, fun _ => ⟨by omega, T_with_c ?_⟩⟩
    rw [h70 l8 hl (by omega)]
    refine ih _ _ (l8 + 1) (by omega) (by omega) (fun i g1 g2 => ?_) h
    have hri := hf.1 i g1 (by omega)
    rw [nibI (by omega) (by omega) (by omega)]
    by_cases z : i = l8
    · rw [z, if_pos rfl]
    · rw [if_neg (fun e => z (hf.2 i l8 g1 (by omega) hl (by omega) e))]
      exact hi i g1 (by omega)
end Seat3
