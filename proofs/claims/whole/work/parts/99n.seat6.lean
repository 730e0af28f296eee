/-! ===== seating: one order of the class ===== -/
theorem unF_rg {g p : Int → Int} : ∀ (f : Nat) (l a : Int), a ≤ unF g p f l a ∧ unF g p f l a ≤ a + f
  | 0, l, a => by show a ≤ a ∧ a ≤ a + ((0 : Nat) : Int); omega
  | f + 1, l, a => by
    have h0 := unF_rg (g := g) (p := p) f (l + 1) a
    have h1 := unF_rg (g := g) (p := p) f (l + 1) (a + 1)
    show a ≤ unF g p f (l + 1) (if g l = p l then a else a + 1) ∧ unF g p f (l + 1) (if g l = p l then a else a + 1) ≤ a + ((f + 1 : Nat) : Int)
    by_cases z : g l = p l
    · rw [if_pos z]; omega
    · rw [if_neg z]; omega
/-- what an order makes of what was found -/
def seO (K : Kn) (B : Int → Int) (pf : Pf) (q : Int → Int) (x : Int) (f : Int → Int) (s : Int × Int) : Int × Int :=
  if (s.2 = -1 ∨ unF (ivF f (kNm K).toNat) (fun j => q (12 + j)) (kNm K).toNat 0 0 < s.2) ∧ sideA K (endA K (wtB B) pf (seS q (kNm K) f) 22) = x then (rowF f (kNm K).toNat 0 0, unF (ivF f (kNm K).toNat) (fun j => q (12 + j)) (kNm K).toNat 0 0) else s
section Seat6
variable {X : Cx} {d : Nat} {m : Mm} {Q0 : Mm → Prop} {c : Nat} {K : Kn} {B q f : Int → Int} {pf : Pf}
theorem O_seats_one_c (hB : Bsh X.2.2.1) (hI : CI X m c K B pf q) (hp : 0 < kNm K) (hf : PmS (kNm K) f) (h70 : ∀ j, 0 ≤ j → j < kNm K → m 70 j = f j) {x n4 l5 : Int} (hx : 0 ≤ x ∧ x ≤ 2) {s : Int × Int} (hs : bS m s) (hs2 : -1 ≤ s.2 ∧ s.2 ≤ 6) (h : ∀ m' o6 o7 o8, SmC m m' → m' 70 = m 70 → bS m' (seO K B pf q x f s) → O_nextOrder X (d + 8) (kNm K) m' (fun m194 => O_searchSeats_60 X (d + 9) x (kNm K) n4 (l5 + 1) o6 o7 o8 m194 Q0)) : O_searchSeats_76 X (d + 9) x (kNm K) n4 l5 0 0 0 m Q0 := by
  obtain ⟨b1, b2, b3, b4, b5⟩ := hI.2.2.2.2.2 hp
  have hn := hI.2.2.2.2.1
  refine O_seats_76_c hB hn h70 hf.1 (kNm K).toNat 0 0 0 (by decide) (by omega) (fun i h1 h2 => by omega) (fun P hP => ?_)
  have hP2 : ∀ j, 0 ≤ j → j < kNm K → nib P j = ivF f (kNm K).toNat j := by
    intro j h1 h2
    obtain ⟨i, i1, i2, rfl⟩ := hf.2 j h1 h2
    rw [hP i i1 i2, ivF_e hf.1 i1 (kNm K).toNat (by omega) (by omega)]
  refine O_searchSeats_76w hB ⟨by omega, by omega, fun _ => ?_, fun z => by omega⟩
  refine O_countUnlikew hB (O_countUnlike_5_c hB (p := fun j => q (12 + j)) hP2 (fun j h1 h2 => (b4.1 j h1 h2).2.2.2) hn (kNm K).toNat 0 0 (by decide) (by omega) ?_)
  obtain ⟨mv, hmv⟩ : ∃ mv, mv = unF (ivF f (kNm K).toNat) (fun j => q (12 + j)) (kNm K).toNat 0 0 := ⟨_, rfl⟩
  have hr := unF_rg (g := ivF f (kNm K).toNat) (p := fun j => q (12 + j)) (kNm K).toNat 0 0
  unfold seO at h
  rw [← hmv] at h hr ⊢
  have go : (s.2 = -1 ∨ mv < s.2) → O_searchSeats_148 X (d + 9) x (kNm K) n4 l5 P (rowF f (kNm K).toNat 0 0) mv m Q0 := by
    intro z
    refine O_seats_148_c hB hI hp hf hx hP hs (fun m' o6 o7 o8 g1 g2 g3 => h m' o6 o7 o8 g1 g2 ?_)
    by_cases z2 : sideA K (endA K (wtB B) pf (seS q (kNm K) f) 22) = x
    · rw [if_pos z2] at g3
      rw [if_pos ⟨z, z2⟩]
      exact g3
    · rw [if_neg z2] at g3
      rw [if_neg (fun e => z2 e.2)]
      exact g3
  rw [hs.1]
  refine ⟨by omega, fun z => go (Or.inl z), fun z => ⟨by omega, fun z2 => h m _ _ _ (SmC.rf m) rfl ?_, fun z2 => go (Or.inr z2)⟩⟩
  rw [if_neg (by omega)]
  exact hs
end Seat6
