/-! ===== the class: acts and rows ===== -/
def al (AL : List (Int → Int)) (i : Nat) : Int → Int := AL.getD i (fun _ => 0)
def kpL (AL : List (Int → Int)) (q : Int → Int) : List (Int → Int) := (if AL.length = 40 then AL.drop 1 else AL) ++ [q]
def slotN (nx len : Int) (i : Nat) : Nat := 26 + ((nx - len + i) % 40).toNat
def lgs (m : Mm) (len i : Nat) : Int := if i < len then m (slotN (m 21 4) len i) 10 else m 17 10
def CR (m : Mm) (K : Kn) (B q : Int → Int) (AL : List (Int → Int)) (r : Int) : Prop :=
  Sr K (wtB B) (m 17) q ∧ Lg (m 22) (m 17 10) q ∧ m 21 0 = AL.length ∧ AL.length ≤ 40 ∧ (0 ≤ m 21 4 ∧ m 21 4 < 40) ∧ (∀ j, 0 ≤ j → j < 40 → m 23 j = 26 + j) ∧
  (∀ i : Nat, i < AL.length → Sr K (wtB B) (m (slotN (m 21 4) AL.length i)) (al AL i) ∧ Lg (m 22) (m (slotN (m 21 4) AL.length i) 10) (al AL i)) ∧
  (∀ i j : Nat, i ≤ j → j ≤ AL.length → 0 ≤ lgs m AL.length j - lgs m AL.length i ∧ lgs m AL.length j - lgs m AL.length i + (if i < j ∧ j = AL.length then r else 0) ≤ 20 * ((j : Int) - i))
/-- what calls that change how it is leave -/
def FcS (m m' : Mm) : Prop := m' 18 0 = m 18 0 ∧ m' 18 1 = m 18 1 ∧ m' 21 1 = m 21 1 ∧ ∀ a, (a < 17 ∨ a = 24 ∨ a = 25 ∨ a = 73 ∨ a = 77 ∨ a = 78 ∨ a = 79 ∨ 82 ≤ a) → m' a = m a
theorem FcS.rf (m : Mm) : FcS m m := ⟨rfl, rfl, rfl, fun _ _ => rfl⟩
theorem FcS.tr {m m1 m2 : Mm} (h : FcS m m1) (h2 : FcS m1 m2) : FcS m m2 := ⟨h2.1.trans h.1, h2.2.1.trans h.2.1, h2.2.2.1.trans h.2.2.1, fun a ha => (h2.2.2.2 a ha).trans (h.2.2.2 a ha)⟩
theorem CR.weak {m : Mm} {K : Kn} {B q : Int → Int} {AL : List (Int → Int)} {r r' : Int} (h : CR m K B q AL r) (hr : r' ≤ r) (h0 : 0 ≤ r) : CR m K B q AL r' := by
  obtain ⟨a1, a2, a3, a4, a5, a6, a7, a8⟩ := h
  refine ⟨a1, a2, a3, a4, a5, a6, a7, fun i j h1 h2 => ?_⟩
  have := a8 i j h1 h2
  refine ⟨this.1, ?_⟩
  have h3 := this.2
  split at h3 <;> split <;> omega
theorem slot_r (nx len : Int) (i : Nat) : 26 ≤ slotN nx len i ∧ slotN nx len i ≤ 65 := by
  unfold slotN
  omega
theorem Cv.fcs {X : Cx} {m m' : Mm} {c : Nat} {K : Kn} {pf : Pf} (h : Cv X m c K pf) (hf : FcS m m') : Cv X m' c K pf := by
  obtain ⟨a1, a2, a3, a4, a5, a6⟩ := h
  have ne : ∀ a, a < 17 → m' a = m a := fun a ha => hf.2.2.2 a (Or.inl ha)
  exact ⟨a1, hf.1.trans a2, a3.fr (ne _ (by omega)) (ne _ (by omega)) (ne _ (by omega)), a4.ls ⟨hf.2.1, fun a ha => hf.2.2.2 a (by omega)⟩, a5, a6⟩
theorem iRm40 {k : Int} (h : 0 ≤ k ∧ k < 80) : iRm k 40 = k % 40 := by
  obtain ⟨u, rfl⟩ : ∃ u : Nat, k = (u : Int) := ⟨k.toNat, by omega⟩
  exact (by decide +kernel : ∀ u : Nat, u < 80 → iRm (u : Int) 40 = (u : Int) % 40) u (by omega)
section Crel
variable {X : Cx} {d : Nat} {m : Mm} {Q : Int → Mm → Prop} {Q0 : Mm → Prop} {c : Nat} {K : Kn} {B q : Int → Int} {pf : Pf} {AL : List (Int → Int)} {r : Int}
theorem H_keepAct_c (hB : Bsh X.2.2.1) (hC : CR m K B q AL r) (hr : 0 ≤ r) (h : ∀ m', CR m' K B q (kpL AL q) 20 → FcS m m' → m' 17 = m 17 → Q0 m') : H_keepAct X (d + 1) m Q0 := by
  obtain ⟨a1, a2, a3, a4, a5, a6, a7, a8⟩ := hC
  obtain ⟨nx, hnx⟩ : ∃ nx, nx = m 21 4 := ⟨_, rfl⟩
  rw [← hnx] at a5 a7
  have hs : sO (26 + nx.toNat) := by right; right; left; omega
  refine H_keepActw hB ⟨by omega, 26 + nx.toNat, hs, ?_, T_copy_c hB (by omega) hs (by decide) ?_⟩
  · rw [← hnx, a6 nx a5.1 a5.2]
    omega
  have f21 : cpS m (26 + nx.toNat) 17 21 = m 21 := cp_fr m _ 17 21 (by simp; omega)
  rw [f21, a3, ← hnx, iRm40 (by omega)]
  refine ⟨by omega, ?_⟩
  obtain ⟨m', hm'⟩ : ∃ m', m' = up (up (cpS m (26 + nx.toNat) 17) 21 4 ((nx + 1) % 40)) 21 0 (min ((AL.length : Int) + 1) 40) := ⟨_, rfl⟩
  rw [← hm']
  have e0 : m' 21 0 = min ((AL.length : Int) + 1) 40 := by rw [hm']; exact up_same _ _ _ _
  have e4 : m' 21 4 = (nx + 1) % 40 := by rw [hm', up_ne (Or.inr (by decide))]; exact up_same _ _ _ _
  have ek : ∀ k, k ≠ 0 → k ≠ 4 → m' 21 k = m 21 k := fun k k0 k4 => by rw [hm', up_ne (Or.inr k0), up_ne (Or.inr k4), f21]
  have eo : ∀ a, a ≠ 21 → a ≠ 26 + nx.toNat → m' a = m a := fun a h1 h2 => by rw [hm', up_off h1, up_off h1]; exact cp_fr m _ 17 a (by simp; exact h2)
  have es : ∀ j, 0 ≤ j → j ≤ 10 → m' (26 + nx.toNat) j = m 17 j := fun j h1 h2 => by
    rw [hm', up_ne (Or.inl (by omega)), up_ne (Or.inl (by omega))]
    unfold cpS
    rw [if_pos ⟨rfl, h1, h2⟩]
  have e17 : m' 17 = m 17 := eo 17 (by decide) (by omega)
  have e22 : m' 22 = m 22 := eo 22 (by decide) (by omega)
  have e23 : m' 23 = m 23 := eo 23 (by decide) (by omega)
  have hlen : (kpL AL q).length = if AL.length = 40 then 40 else AL.length + 1 := by
    unfold kpL
    by_cases z : AL.length = 40
    · rw [if_pos z, if_pos z]; simp [z]
    · rw [if_neg z, if_neg z]; simp
  -- the place of each
  have hat : ∀ i : Nat, i < (kpL AL q).length → (i + 1 = (kpL AL q).length ∧ al (kpL AL q) i = q ∧ slotN (m' 21 4) (kpL AL q).length i = 26 + nx.toNat) ∨ (∃ i', i' < AL.length ∧ (if AL.length = 40 then i' = i + 1 else i' = i) ∧ al (kpL AL q) i = al AL i' ∧ slotN (m' 21 4) (kpL AL q).length i = slotN nx AL.length i' ∧ slotN nx AL.length i' ≠ 26 + nx.toNat) := by
    intro i hi
    rw [hlen] at hi ⊢
    rw [e4]
    by_cases z : AL.length = 40
    · rw [if_pos z] at hi ⊢
      by_cases z2 : i = 39
      · left
        refine ⟨by omega, ?_, ?_⟩
        · unfold al kpL
          rw [if_pos z, z2, List.getD_eq_getElem?_getD, List.getElem?_append_right (by simp [z])]
          simp [z]
        · unfold slotN
          omega
      · right
        refine ⟨i + 1, by omega, by rw [if_pos z], ?_, ?_, ?_⟩
        · unfold al kpL
          rw [if_pos z, List.getD_eq_getElem?_getD, List.getD_eq_getElem?_getD, List.getElem?_append_left (by simp [z]; omega), List.getElem?_drop, Nat.add_comm]
        · unfold slotN
          omega
        · unfold slotN
          omega
    · rw [if_neg z] at hi ⊢
      by_cases z2 : i = AL.length
      · left
        refine ⟨by omega, ?_, ?_⟩
        · unfold al kpL
          rw [if_neg z, z2, List.getD_eq_getElem?_getD, List.getElem?_append_right (Nat.le_refl _), Nat.sub_self]
          rfl
        · unfold slotN
          omega
      · right
        refine ⟨i, by omega, by rw [if_neg z], ?_, ?_, ?_⟩
        · unfold al kpL
          rw [if_neg z, List.getD_eq_getElem?_getD, List.getD_eq_getElem?_getD, List.getElem?_append_left (by omega)]
        · unfold slotN
          omega
        · unfold slotN
          omega
  have hlg : ∀ i : Nat, i ≤ (kpL AL q).length → ∃ i' : Nat, i' ≤ AL.length ∧ lgs m' (kpL AL q).length i = lgs m AL.length i' ∧ (if i = (kpL AL q).length then i' = AL.length else if AL.length = 40 then i' = i + 1 else i' = i) := by
    intro i hi
    by_cases z : i = (kpL AL q).length
    · refine ⟨AL.length, Nat.le_refl _, ?_, by rw [if_pos z]⟩
      unfold lgs
      rw [if_neg (by omega), if_neg (by omega), e17]
    · rcases hat i (by omega) with ⟨h1, h2, h3⟩ | ⟨i', h1, h2, h3, h4, h5⟩
      · refine ⟨AL.length, Nat.le_refl _, ?_, ?_⟩
        · unfold lgs
          rw [if_pos (by omega), if_neg (by omega), h3, es 10 (by decide) (by decide)]
        · rw [if_neg z]
          rw [hlen] at h1
          split <;> split at h1 <;> omega
      · refine ⟨i', by omega, ?_, ?_⟩
        · unfold lgs
          rw [if_pos (by omega), if_pos h1, h4, ← hnx, eo _ (by have := slot_r nx AL.length i'; omega) h5]
        · rw [if_neg z]
          exact h2
  refine h m' ⟨by rw [e17]; exact a1, by rw [e17, e22]; exact a2, ?_, ?_, by rw [e4]; omega, fun j h1 h2 => by rw [e23]; exact a6 j h1 h2, fun i hi => ?_, fun i j h1 h2 => ?_⟩ ⟨by rw [eo 18 (by decide) (by omega)], by rw [eo 18 (by decide) (by omega)], ek 1 (by decide) (by decide), fun a ha => eo a (by omega) (by omega)⟩ e17
  · rw [e0, hlen]
    split <;> omega
  · rw [hlen]
    split <;> omega
  · rcases hat i hi with ⟨h1, h2, h3⟩ | ⟨i', h1, h2, h3, h4, h5⟩
    · rw [h2, h3, e22, es 10 (by decide) (by decide)]
      exact ⟨a1.cong (fun j j1 j2 => es j j1 (by omega)), a2⟩
    · rw [h3, h4, e22, eo _ (by have := slot_r nx AL.length i'; omega) h5]
      exact a7 i' h1
  · obtain ⟨i', g1, g2, g3⟩ := hlg i (by omega)
    obtain ⟨j', g4, g5, g6⟩ := hlg j h2
    rw [g2, g5]
    rw [hlen] at *
    by_cases z : i = j
    · have : i' = j' := by
        subst z
        rw [hlen] at *
        split at g3 <;> split at g6 <;> (try split at g3) <;> (try split at g6) <;> omega
      rw [this, if_neg (by omega)]
      omega
    · have hij : i' ≤ j' := by
        split at g3 <;> split at g6 <;> (try split at g3) <;> (try split at g6) <;> (try split at h2) <;> omega
      have := a8 i' j' hij g4
      refine ⟨this.1, ?_⟩
      have h5 : lgs m AL.length j' - lgs m AL.length i' ≤ 20 * ((j' : Int) - i') := by
        have h6 := this.2
        split at h6 <;> omega
      split at g3 <;> split at g6 <;> (try split at g3) <;> (try split at g6) <;> (try split at h2) <;> split <;> omega
end Crel
