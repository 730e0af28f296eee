/-! ===== seating: the class tries an order ===== -/
section Seat5
variable {X : Cx} {d : Nat} {m : Mm} {Q0 : Mm → Prop} {c : Nat} {K : Kn} {B q f : Int → Int} {pf : Pf}
/-- what the class has found: row, moves -/
def bS (m : Mm) (s : Int × Int) : Prop := m 66 1 = s.2 ∧ m 66 2 = s.1
theorem O_seats_148_c (hB : Bsh X.2.2.1) (hI : CI X m c K B pf q) (hp : 0 < kNm K) (hf : PmS (kNm K) f) {x n4 l5 P l7 l8 : Int} (hx : 0 ≤ x ∧ x ≤ 2) (hP : ∀ i, 0 ≤ i → i < kNm K → nib P (f i) = i) {s : Int × Int} (hs : bS m s) (h : ∀ m' o6 o7 o8, SmC m m' → m' 70 = m 70 → bS m' (if sideA K (endA K (wtB B) pf (seS q (kNm K) f) 22) = x then (l7, l8) else s) → O_nextOrder X (d + 8) (kNm K) m' (fun m194 => O_searchSeats_60 X (d + 9) x (kNm K) n4 (l5 + 1) o6 o7 o8 m194 Q0)) : O_searchSeats_148 X (d + 9) x (kNm K) n4 l5 P l7 l8 m Q0 := by
  obtain ⟨b1, b2, b3, b4, b5⟩ := hI.2.2.2.2.2 hp
  have hn := hI.2.2.2.2.1
  refine O_searchSeats_148w hB (T_copy_c hB (by decide) (by decide) (by decide) ?_)
  have hc : Sc 69 m (cpS m 69 17) := cp_sc (Or.inl rfl)
  have hc2 : Sc 69 m (up (cpS m 69 17) 69 3 P) := hc.tr ⟨by rw [up_ne (Or.inl (by decide))], by rw [up_ne (Or.inl (by decide))], (Fr.rf _ _).up (by simp)⟩
  have hS : Sr K (wtB B) (up (cpS m 69 17) 69 3 P 69) (seS q (kNm K) f) := by
    refine seS_sr b4 hn.2 hf (fun i h1 h2 => by rw [up_same]; exact hP i h1 h2) (fun j h1 h2 h3 => ?_)
    rw [up_ne (Or.inr h1)]
    unfold cpS
    rw [if_pos ⟨rfl, h2, by omega⟩]
  have hv := b1.of (Or.inr (Or.inl rfl)) hc2
  refine S_sideAtEnd_c hB hv (Or.inr (Or.inl rfl)) b2.w hS (seS_ok b3 hn.2 hf) (fun m1 g1 g2 g3 => ?_)
  have hr := sideA_r K (endA K (wtB B) pf (seS q (kNm K) f) 22)
  have h4 : SmC m m1 := (hc2.tr g3).sm (Or.inl rfl)
  have e66 : m1 66 = m 66 := (hc2.tr g3).2.2 66 (by decide)
  have e70 : m1 70 = m 70 := (hc2.tr g3).2.2 70 (by decide)
  refine ⟨by omega, by omega, fun z => h m1 _ _ _ h4 e70 ?_, fun z => h _ _ _ _ (h4.tr (SmC.fr (((Fr.rf [66] _).up (by simp)).up (by simp)) (by decide))) (by rw [up_off (by decide), up_off (by decide)]; exact e70) ?_⟩
  · rw [if_neg z]
    unfold bS
    rw [e66]
    exact hs
  · rw [if_pos z]
    exact ⟨by rw [up_ne (Or.inr (by decide)), up_same], by rw [up_same]⟩
end Seat5
