/-! ===== helpers ===== -/
theorem vtI {V : aS → Prop} {pc : Nat} {L : aL} {r : List Value} {w : aW} {n : Nat} {x y : Int} (h : x = y) (k : V (pc, L, vI y :: r, w, n)) : V (pc, L, vI x :: r, w, n) := h ▸ k
theorem vtJ {V : aS → Prop} {pc : Nat} {L : aL} {r : List Value} {w : aW} {n : Nat} {x y : Int} (h : x = y) (k : V (pc, L, vJ y :: r, w, n)) : V (pc, L, vJ x :: r, w, n) := h ▸ k
theorem nmM {V : aS → Prop} {pc : Nat} {L : aL} {r : List Value} {n : Nat} {sh : List Sh} {m : Mm} (k : ∀ m', m' = m → V (pc, L, r, Wd sh m', n)) : V (pc, L, r, Wd sh m, n) := k m rfl
theorem rdS {m' m : Mm} {a : Nat} {k v : Int} (h : m' = up m a k v) : m' a k = v := by rw [h]; exact up_same _ _ _ _
theorem rdN {m' m : Mm} {a : Nat} {k j v : Int} (h : m' = up m a k v) (hj : j ≠ k) : m' a j = m a j := by rw [h]; exact up_ne (Or.inr hj)
theorem rdA {m' m : Mm} {a b : Nat} {k j v : Int} (h : m' = up m a k v) (hb : b ≠ a) : m' b j = m b j := by rw [h]; exact up_ne (Or.inl hb)
theorem rdAf {m' m : Mm} {a b : Nat} {k v : Int} (h : m' = up m a k v) (hb : b ≠ a) : m' b = m b := by rw [h]; exact up_off hb
theorem rdF {m' m : Mm} {S : List Nat} {a : Nat} {j : Int} (h : Fr S m m') (ha : a ∉ S) : m' a j = m a j := by rw [h a ha]
theorem frUp {S : List Nat} {m m1 m2 : Mm} {a : Nat} {k v : Int} (hm : m2 = up m1 a k v) (h : Fr S m m1) (ha : a ∈ S) : Fr S m m2 := by rw [hm]; exact h.up ha
theorem frUpR {S : List Nat} {m m1 m2 : Mm} {a : Nat} {lo hi : Int} {f : Int → Int} (hm : m2 = upR m1 a lo hi f) (h : Fr S m m1) (ha : a ∈ S) : Fr S m m2 := by rw [hm]; exact h.upR ha
abbrev Csh (sh : List Sh) (c : Nat) : Prop := sh[c]? = some (cnS c) ∧ sh[c + 1]? = some (.inr (.inl (0, 5))) ∧ sh[c + 2]? = some (.inr (.inl (0, 24))) ∧ sh[c + 3]? = some (.inr (.inl (0, 24)))
theorem csh_of {sh : List Sh} {c : Nat} (hB : Bsh sh) (h : c = 9 ∨ c = 13) : Csh sh c := by
  rcases h with rfl | rfl
  · exact ⟨hB 9 _ rfl, hB 10 _ rfl, hB 11 _ rfl, hB 12 _ rfl⟩
  · exact ⟨hB 13 _ rfl, hB 14 _ rfl, hB 15 _ rfl, hB 16 _ rfl⟩
/-- the class's canton is this one -/
def Ck (m : Mm) (c : Nat) (K : Kn) : Prop := m c 3 = kNb K ∧ m c 4 = kNm K ∧ m c 5 = kIc K ∧ (∀ j, 0 ≤ j → j < 5 → m (c + 1) j = kR K j) ∧ (∀ j, 0 ≤ j → j < 4 * kNb K → m (c + 2) j = kB K j)
theorem Ck.fr {m m' : Mm} {c : Nat} {K : Kn} (h : Ck m c K) (h0 : m' c = m c) (h1 : m' (c + 1) = m (c + 1)) (h2 : m' (c + 2) = m (c + 2)) : Ck m' c K := by
  unfold Ck at *
  rw [h0, h1, h2]
  exact h
/-- the class's state is this one -/
def Sr (K : Kn) (wt : Int → Int) (f q : Int → Int) : Prop := (∀ k : Int, 0 ≤ k → k < kNm K → nib (f 0) k = wt k ∧ nib (f 1) k = q k ∧ nib (f 2) k = q (6 + k) ∧ nib (f 3) k = q (12 + k)) ∧ f 4 = pw (kNm K) - 1 - q 18 ∧ f 5 = q 19 ∧ f 6 = q 20 ∧ f 7 = q 21 ∧ f 8 = q 22 ∧ f 9 = q 23
abbrev stO (s : Nat) : Prop := s = 17 ∨ s = 69 ∨ s = 76
def Lsc (m m' : Mm) : Prop := m' 18 1 = m 18 1 ∧ ∀ a, 114 ≤ a → m' a = m a
theorem Lsc.rf (m : Mm) : Lsc m m := ⟨rfl, fun _ _ => rfl⟩
theorem Lsc.tr {m m1 m2 : Mm} (h : Lsc m m1) (h2 : Lsc m1 m2) : Lsc m m2 := ⟨h2.1.trans h.1, fun a x => (h2.2 a x).trans (h.2 a x)⟩
theorem Lsc.of {m m' : Mm} {S : List Nat} (hf : Fr S m m') (hS : ∀ a ∈ S, a < 114) (h : m' 18 1 = m 18 1) : Lsc m m' := ⟨h, fun a ha => hf a (fun q => by have := hS a q; omega)⟩
/-- what pushOf of the class answers -/
def PC (xs : List Int32) (fv : Value) (sh : List Sh) (n : Nat) (m : Mm) (pf : Pf) : Prop := ∀ (d : Nat) (m' : Mm) (s : Nat) (K : Kn) (wt q : Int → Int) (k : Int), Lsc m m' → stO s → Sr K wt (m' s) q → Kok K → Qok K q → Wok K wt → 0 ≤ k → k < kNm K → Rq (gP xs fv) (d + 5) 79 sh n (fun v m2 => v = pushA (kNm K) wt pf q k ∧ Fr [19, 20] m' m2) (0, [some (.ref 18), some (.ref s), some (vI k), none, none], [], Wd sh m', n)
theorem PC.ls {xs : List Int32} {fv : Value} {sh : List Sh} {n : Nat} {m m1 : Mm} {pf : Pf} (h : PC xs fv sh n m pf) (hl : Lsc m m1) : PC xs fv sh n m1 pf := fun d m' s K wt q k a => h d m' s K wt q k (hl.tr a)
theorem ab_bit {nm x : Int} {k : Int} (hn : 1 ≤ nm ∧ nm ≤ 6) (hx : 0 ≤ x ∧ x < pw nm) (hk : 0 ≤ k ∧ k < nm) : bit (pw nm - 1 - x) k = 1 - bit x k := by
  obtain ⟨a, rfl⟩ : ∃ a : Nat, nm = (a : Int) := ⟨nm.toNat, by omega⟩
  obtain ⟨b, rfl⟩ : ∃ b : Nat, x = (b : Int) := ⟨x.toNat, by omega⟩
  obtain ⟨j, rfl⟩ : ∃ j : Nat, k = (j : Int) := ⟨k.toNat, by omega⟩
  have h6 := pw_le hn
  exact (by decide +kernel : ∀ a : Nat, a ≤ 6 → ∀ b : Nat, b < 64 → (b : Int) < pw a → ∀ j : Nat, j < a → bit (pw (a : Int) - 1 - (b : Int)) (j : Int) = 1 - bit (b : Int) (j : Int)) a (by omega) b (by omega) hx.2 j (by omega)
theorem and_sub {a y : Int} (ha : 0 ≤ a ∧ a < 64) (hy : 0 ≤ y ∧ y < 64) (h : ∀ k : Nat, k < 6 → bit y k = 1 → bit a k = 1) : iA a (iX y (-1)) = a - y := by
  obtain ⟨u, rfl⟩ : ∃ k : Nat, a = (k : Int) := ⟨a.toNat, by omega⟩
  obtain ⟨v, rfl⟩ : ∃ k : Nat, y = (k : Int) := ⟨y.toNat, by omega⟩
  exact (by decide +kernel : ∀ u : Nat, u < 64 → ∀ v : Nat, v < 64 → (∀ k : Nat, k < 6 → bit (v : Int) k = 1 → bit (u : Int) k = 1) → iA (u : Int) (iX (v : Int) (-1)) = (u : Int) - v) u (by omega) v (by omega) h
theorem pw_e {nm : Int} (hn : 0 ≤ nm ∧ nm ≤ 6) : iSl 1 nm = pw nm := by
  obtain ⟨a, rfl⟩ : ∃ a : Nat, nm = (a : Int) := ⟨nm.toNat, by omega⟩
  exact (by decide +kernel : ∀ a : Nat, a ≤ 6 → iSl 1 (a : Int) = pw (a : Int)) a (by omega)

