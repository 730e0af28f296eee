/-! ===== the text of a law, read purely ===== -/
/-- read or not; where it stops (the fault, if not); the codes -/
abbrev Rr : Type := Bool × Int × Cd
def sgn (T : Int → Int) (n a : Int) : Int := if a < n then T a else 0
def skp (T : Int → Int) (n : Int) : Nat → Int → Int
  | 0, a => a
  | k + 1, a => if a < n ∧ T a = 32 then skp T n k (a + 1) else a
def sk (T : Int → Int) (n a : Int) : Int := skp T n (n - a).toNat a
def TOk (T : Int → Int) (n : Int) : Prop := (0 ≤ n ∧ n ≤ 240) ∧ ∀ j, 0 ≤ j → j < n → 1 ≤ T j ∧ T j ≤ 255
theorem skp_r (T : Int → Int) (n : Int) : ∀ (k : Nat) (a : Int), a ≤ skp T n k a ∧ (a ≤ n → skp T n k a ≤ n)
  | 0, a => ⟨Int.le_refl _, fun h => h⟩
  | k + 1, a => by
    have := skp_r T n k (a + 1)
    unfold skp
    split
    · exact ⟨by omega, fun h => this.2 (by omega)⟩
    · exact ⟨Int.le_refl _, fun h => h⟩
theorem sk_ge (T : Int → Int) (n a : Int) : a ≤ sk T n a := (skp_r T n _ a).1
theorem sk_le {T : Int → Int} {n a : Int} (h : a ≤ n) : sk T n a ≤ n := (skp_r T n _ a).2 h
theorem skp_e (T : Int → Int) (n : Int) : ∀ (k : Nat) (a : Int), n - a ≤ k → n ≤ skp T n k a ∨ T (skp T n k a) ≠ 32
  | 0, a, h => Or.inl (by show n ≤ a; omega)
  | k + 1, a, h => by
    unfold skp
    by_cases z : a < n ∧ T a = 32
    · rw [if_pos z]
      exact skp_e T n k (a + 1) (by omega)
    · rw [if_neg z]
      by_cases z2 : a < n
      · exact Or.inr (fun e => z ⟨z2, e⟩)
      · exact Or.inl (by omega)
theorem sk_e (T : Int → Int) (n a : Int) : n ≤ sk T n a ∨ T (sk T n a) ≠ 32 := skp_e T n _ a (by omega)
theorem sk_no {T : Int → Int} {n a : Int} (h : ¬ (a < n ∧ T a = 32)) : sk T n a = a := by
  unfold sk
  cases (n - a).toNat with
  | zero => rfl
  | succ k => unfold skp; rw [if_neg h]
theorem sk_yes {T : Int → Int} {n a : Int} (h : a < n ∧ T a = 32) : sk T n a = sk T n (a + 1) := by
  unfold sk
  have e : (n - a).toNat = (n - (a + 1)).toNat + 1 := by omega
  rw [e]
  show (if a < n ∧ T a = 32 then skp T n _ (a + 1) else a) = _
  rw [if_pos h]
theorem sk_big {T : Int → Int} {n a : Int} (h : n ≤ a) : sk T n a = a := sk_no (by omega)
theorem sk_sk (T : Int → Int) (n a : Int) : sk T n (sk T n a) = sk T n a := sk_no (fun z => by have := sk_e T n a; omega)
theorem sgn_r {T : Int → Int} {n a : Int} (h : TOk T n) (h0 : 0 ≤ a) : 0 ≤ sgn T n a ∧ sgn T n a ≤ 255 := by
  unfold sgn
  split
  · have := h.2 a h0 (by omega)
    omega
  · exact ⟨Int.le_refl _, by decide⟩
theorem sgn_nz {T : Int → Int} {n a : Int} (h : sgn T n a ≠ 0) : a < n := by
  unfold sgn at h
  by_cases z : a < n
  · exact z
  · rw [if_neg z] at h; exact absurd rfl h
def ltO (c : Int) : Int := if c = 119 then 0 else if c = 104 then 1 else if c = 112 then 2 else if c = 110 then 3 else if c = 114 then 4 else if c = 99 then 5 else -1
def nmL (T : Int → Int) (n : Int) : Nat → Int → Int → Int × Int
  | 0, a, v => (a, v)
  | k + 1, a, v => if 48 ≤ sgn T n a ∧ sgn T n a ≤ 57 then nmL T n k (a + 1) (10 * v + sgn T n a - 48) else (a, v)
def pNum (T : Int → Int) (n a : Int) : Rr := (decide (¬ (48 ≤ sgn T n (nmL T n 4 a 0).1 ∧ sgn T n (nmL T n 4 a 0).1 ≤ 57)), (nmL T n 4 a 0).1, [(0, (nmL T n 4 a 0).2)])
/-- what was read, and a sign behind it -/
def thn (T : Int → Int) (n c : Int) (r : Rr) : Rr := if r.1 = false then r else if sgn T n (sk T n r.2.1) = c then (true, sk T n r.2.1 + 1, r.2.2) else (false, sk T n r.2.1, r.2.2)
def pAtom (T : Int → Int) (n : Int) (inn : Int → Rr) (e : Nat) (a : Int) : Rr :=
  if sgn T n (sk T n a) = 91 then (if e = 0 then (false, sk T n a, []) else thn T n 93 (inn (sk T n a + 1)))
  else if 48 ≤ sgn T n (sk T n a) ∧ sgn T n (sk T n a) ≤ 57 then pNum T n (sk T n a)
  else if ltO (sgn T n (sk T n a)) = -1 then (false, sk T n a, []) else (true, sk T n a + 1, [(1, ltO (sgn T n (sk T n a)))])
/-- what follows again and again behind one of two signs -/
def lpP (T : Int → Int) (n : Int) (it : Int → Rr) (s1 s2 o1 o2 : Int) : Nat → Rr → Rr
  | 0, r => r
  | k + 1, r => if r.1 = false then r else if sgn T n (sk T n r.2.1) = s1 ∨ sgn T n (sk T n r.2.1) = s2 then lpP T n it s1 s2 o1 o2 k ((it (sk T n r.2.1 + 1)).1, (it (sk T n r.2.1 + 1)).2.1, r.2.2 ++ ((it (sk T n r.2.1 + 1)).2.2 ++ [((if sgn T n (sk T n r.2.1) = s1 then o1 else o2), 0)])) else (true, sk T n r.2.1, r.2.2)
def pTerm (T : Int → Int) (n : Int) (inn : Int → Rr) (e : Nat) (a : Int) : Rr := lpP T n (pAtom T n inn e) 42 47 4 5 240 (pAtom T n inn e a)
def pSum (T : Int → Int) (n : Int) (inn : Int → Rr) (e : Nat) (a : Int) : Rr := lpP T n (pTerm T n inn e) 43 45 2 3 240 (pTerm T n inn e a)
def sumE (T : Int → Int) (n : Int) : Nat → Int → Rr
  | 0 => pSum T n (fun a => (false, a, [])) 0
  | e + 1 => pSum T n (sumE T n e) (e + 1)
def cmO (c : Int) : Int := if c = 61 then 6 else if c = 60 then 7 else 8
def isC (c : Int) : Prop := c = 61 ∨ c = 60 ∨ c = 62
/-- a comparison, what is ahead of it read -/
def pCmp (T : Int → Int) (n : Int) (e : Nat) (a : Int) : Rr :=
  if sgn T n (sk T n a) = 61 ∨ sgn T n (sk T n a) = 60 ∨ sgn T n (sk T n a) = 62 then ((sumE T n e (sk T n a + 1)).1, (sumE T n e (sk T n a + 1)).2.1, (sumE T n e (sk T n a + 1)).2.2 ++ [(cmO (sgn T n (sk T n a)), 0)]) else (false, sk T n a, [])
def pUnit (T : Int → Int) (n : Int) (un cn : Int → Rr) (e : Nat) (a : Int) : Rr :=
  if sgn T n (sk T n a) = 33 then (if e = 0 then (false, sk T n a, []) else ((un (sk T n a + 1)).1, (un (sk T n a + 1)).2.1, (un (sk T n a + 1)).2.2 ++ [(9, 0)]))
  else if sgn T n (sk T n a) = 40 then (if e = 0 then (false, sk T n a, []) else thn T n 41 (cn (sk T n a + 1)))
  else if (sumE T n e (sk T n a)).1 = false then sumE T n e (sk T n a) else ((pCmp T n e (sumE T n e (sk T n a)).2.1).1, (pCmp T n e (sumE T n e (sk T n a)).2.1).2.1, (sumE T n e (sk T n a)).2.2 ++ (pCmp T n e (sumE T n e (sk T n a)).2.1).2.2)
def pTru (T : Int → Int) (n : Int) (u : Int → Rr) (a : Int) : Rr := lpP T n u 38 38 10 10 240 (u a)
def pCnd (T : Int → Int) (n : Int) (u : Int → Rr) (a : Int) : Rr := lpP T n (pTru T n u) 124 124 11 11 240 (pTru T n u a)
def untE (T : Int → Int) (n : Int) : Nat → Int → Rr
  | 0 => pUnit T n (fun a => (false, a, [])) (fun a => (false, a, [])) 0
  | e + 1 => pUnit T n (untE T n e) (pCnd T n (untE T n e)) (e + 1)
/-- what holds of all readers: they go on, and a code costs a sign -/
def PG (n : Int) (F : Int → Rr) : Prop := ∀ a, 0 ≤ a → a ≤ n → a ≤ (F a).2.1 ∧ (F a).2.1 ≤ n ∧ ((F a).1 = true → a + (F a).2.2.length ≤ (F a).2.1 ∧ a < (F a).2.1)
def PR (n a : Int) (r : Rr) : Prop := a ≤ r.2.1 ∧ r.2.1 ≤ n ∧ (r.1 = true → a + r.2.2.length ≤ r.2.1 ∧ a < r.2.1)
theorem nmL_r {T : Int → Int} {n : Int} : ∀ (k : Nat) (a v : Int), a ≤ n → a ≤ (nmL T n k a v).1 ∧ (nmL T n k a v).1 ≤ n
  | 0, a, v, h => ⟨Int.le_refl _, h⟩
  | k + 1, a, v, h => by
    unfold nmL
    split
    next z =>
      have hz : a < n := sgn_nz (T := T) (by omega)
      have := nmL_r (T := T) (n := n) k (a + 1) (10 * v + sgn T n a - 48) (by omega)
      exact ⟨by omega, this.2⟩
    next z => exact ⟨Int.le_refl _, h⟩
theorem nmL_v {T : Int → Int} {n : Int} : ∀ (k : Nat) (a v B : Int), 0 ≤ v → v ≤ B → 0 ≤ (nmL T n k a v).2 ∧ (nmL T n k a v).2 ≤ (B + 1) * 10 ^ k - 1
  | 0, a, v, B, h0, hB => by show 0 ≤ v ∧ v ≤ (B + 1) * 10 ^ 0 - 1; rw [Int.pow_zero, Int.mul_one]; omega
  | k + 1, a, v, B, h0, hB => by
    have hP : (0 : Int) < 10 ^ k := Int.pow_pos (by decide)
    have e : (B + 1) * 10 ^ (k + 1) = (10 * B + 9 + 1) * 10 ^ k := by
      rw [Int.pow_succ, Int.mul_comm (10 ^ k) 10, ← Int.mul_assoc]
      congr 1
      omega
    have hle : (B + 1) * 10 ^ k ≤ (10 * B + 9 + 1) * 10 ^ k := Int.mul_le_mul_of_nonneg_right (by omega) (by omega)
    have hle2 : (B + 1) * 1 ≤ (B + 1) * 10 ^ k := Int.mul_le_mul_of_nonneg_left (by omega) (by omega)
    unfold nmL
    split
    next z =>
      have := nmL_v (T := T) (n := n) k (a + 1) (10 * v + sgn T n a - 48) (10 * B + 9) (by omega) (by omega)
      rw [e]
      exact this
    next z => exact ⟨h0, by show v ≤ _; rw [e]; omega⟩
theorem thn_r {T : Int → Int} {n c a : Int} {r : Rr} (hc : c ≠ 0) (h : PR n a r) : PR n a (thn T n c r) := by
  obtain ⟨h1, h2, h3⟩ := h
  have hk := sk_ge T n r.2.1
  have hk2 := sk_le (T := T) h2
  unfold thn
  by_cases z : r.1 = false
  · rw [if_pos z]; exact ⟨h1, h2, h3⟩
  · rw [if_neg z]
    have h3 := h3 (by cases e : r.1 <;> simp_all)
    by_cases z2 : sgn T n (sk T n r.2.1) = c
    · have := sgn_nz (T := T) (n := n) (a := sk T n r.2.1) (by omega)
      rw [if_pos z2]
      exact ⟨by show a ≤ sk T n r.2.1 + 1; omega, by show sk T n r.2.1 + 1 ≤ n; omega, fun _ => ⟨by show a + (r.2.2.length : Int) ≤ sk T n r.2.1 + 1; omega, by show a < sk T n r.2.1 + 1; omega⟩⟩
    · rw [if_neg z2]
      exact ⟨by show a ≤ sk T n r.2.1; omega, hk2, fun e => by cases e⟩
theorem PR.from {n a b : Int} {r : Rr} (h : PR n b r) (hab : a ≤ b) : PR n a r := ⟨by have := h.1; omega, h.2.1, fun e => by have := h.2.2 e; omega⟩
theorem pAtom_g {T : Int → Int} {n : Int} {inn : Int → Rr} {e : Nat} (hi : e ≠ 0 → PG n inn) : PG n (pAtom T n inn e) := by
  intro a h0 h1
  have hk := sk_ge T n a
  have hk2 := sk_le (T := T) h1
  show PR n a (pAtom T n inn e a)
  unfold pAtom
  by_cases z : sgn T n (sk T n a) = 91
  · have hz := sgn_nz (T := T) (n := n) (a := sk T n a) (by omega)
    rw [if_pos z]
    by_cases ez : e = 0
    · rw [if_pos ez]; exact ⟨hk, hk2, fun e => by cases e⟩
    · rw [if_neg ez]
      have := hi ez (sk T n a + 1) (by omega) (by omega)
      exact thn_r (by decide) (PR.from (r := inn (sk T n a + 1)) this (by omega))
  · rw [if_neg z]
    by_cases z2 : 48 ≤ sgn T n (sk T n a) ∧ sgn T n (sk T n a) ≤ 57
    · rw [if_pos z2]
      have hz := sgn_nz (T := T) (n := n) (a := sk T n a) (by omega)
      have e1 : nmL T n 4 (sk T n a) 0 = nmL T n 3 (sk T n a + 1) (10 * 0 + sgn T n (sk T n a) - 48) := by
        show (if 48 ≤ sgn T n (sk T n a) ∧ sgn T n (sk T n a) ≤ 57 then _ else _) = _
        rw [if_pos z2]
      have := nmL_r (T := T) (n := n) 3 (sk T n a + 1) (10 * 0 + sgn T n (sk T n a) - 48) (by omega)
      rw [← e1] at this
      exact ⟨by show a ≤ (nmL T n 4 (sk T n a) 0).1; omega, by show (nmL T n 4 (sk T n a) 0).1 ≤ n; omega, fun _ => ⟨by show a + ((1 : Nat) : Int) ≤ (nmL T n 4 (sk T n a) 0).1; omega, by show a < (nmL T n 4 (sk T n a) 0).1; omega⟩⟩
    · rw [if_neg z2]
      by_cases z3 : ltO (sgn T n (sk T n a)) = -1
      · rw [if_pos z3]; exact ⟨hk, hk2, fun e => by cases e⟩
      · have hz := sgn_nz (T := T) (n := n) (a := sk T n a) (fun e => z3 (by rw [e]; rfl))
        rw [if_neg z3]
        exact ⟨by show a ≤ sk T n a + 1; omega, by show sk T n a + 1 ≤ n; omega, fun _ => ⟨by show a + ((1 : Nat) : Int) ≤ sk T n a + 1; omega, by show a < sk T n a + 1; omega⟩⟩
theorem lpP_r {T : Int → Int} {n a : Int} {it : Int → Rr} {s1 s2 o1 o2 : Int} (h0 : 0 ≤ a) (hit : PG n it) (hs : s1 ≠ 0 ∧ s2 ≠ 0) : ∀ (k : Nat) (r : Rr), PR n a r → PR n a (lpP T n it s1 s2 o1 o2 k r)
  | 0, r, h => h
  | k + 1, r, h => by
    have hk := sk_ge T n r.2.1
    have hk2 := sk_le (T := T) h.2.1
    unfold lpP
    by_cases z : r.1 = false
    · rw [if_pos z]; exact h
    · rw [if_neg z]
      have h1 := h.1
      have h3 := h.2.2 (by cases e : r.1 <;> simp_all)
      by_cases z2 : sgn T n (sk T n r.2.1) = s1 ∨ sgn T n (sk T n r.2.1) = s2
      · have hz := sgn_nz (T := T) (n := n) (a := sk T n r.2.1) (by omega)
        have hq := hit (sk T n r.2.1 + 1) (by omega) (by omega)
        rw [if_pos z2]
        refine lpP_r h0 hit hs k _ ⟨by show a ≤ (it (sk T n r.2.1 + 1)).2.1; omega, hq.2.1, fun e => ?_⟩
        have := hq.2.2 e
        refine ⟨?_, by show a < (it (sk T n r.2.1 + 1)).2.1; omega⟩
        show a + ((r.2.2 ++ ((it (sk T n r.2.1 + 1)).2.2 ++ [_])).length : Int) ≤ (it (sk T n r.2.1 + 1)).2.1
        rw [List.length_append, List.length_append, List.length_singleton]
        omega
      · rw [if_neg z2]
        exact ⟨by show a ≤ sk T n r.2.1; omega, hk2, fun _ => ⟨by show a + (r.2.2.length : Int) ≤ sk T n r.2.1; omega, by show a < sk T n r.2.1; omega⟩⟩
theorem lp_g {T : Int → Int} {n : Int} {it : Int → Rr} {s1 s2 o1 o2 : Int} (k : Nat) (hit : PG n it) (hs : s1 ≠ 0 ∧ s2 ≠ 0) : PG n (fun a => lpP T n it s1 s2 o1 o2 k (it a)) := fun a h0 h1 => lpP_r h0 hit hs k (it a) (hit a h0 h1)
theorem pTerm_g {T : Int → Int} {n : Int} {inn : Int → Rr} {e : Nat} (hi : e ≠ 0 → PG n inn) : PG n (pTerm T n inn e) := lp_g 240 (pAtom_g hi) (by decide)
theorem pSum_g {T : Int → Int} {n : Int} {inn : Int → Rr} {e : Nat} (hi : e ≠ 0 → PG n inn) : PG n (pSum T n inn e) := lp_g 240 (pTerm_g hi) (by decide)
theorem sumE_g (T : Int → Int) (n : Int) : ∀ e : Nat, PG n (sumE T n e)
  | 0 => pSum_g (fun h => absurd rfl h)
  | e + 1 => pSum_g (fun _ => sumE_g T n e)
theorem pCmp_g {T : Int → Int} {n : Int} {e : Nat} : PG n (pCmp T n e) := by
  intro a h0 h1
  have hk := sk_ge T n a
  have hk2 := sk_le (T := T) h1
  show PR n a (pCmp T n e a)
  unfold pCmp
  by_cases z : sgn T n (sk T n a) = 61 ∨ sgn T n (sk T n a) = 60 ∨ sgn T n (sk T n a) = 62
  · have hz := sgn_nz (T := T) (n := n) (a := sk T n a) (by omega)
    have hq := sumE_g T n e (sk T n a + 1) (by omega) (by omega)
    rw [if_pos z]
    refine ⟨by show a ≤ (sumE T n e (sk T n a + 1)).2.1; omega, hq.2.1, fun e' => ?_⟩
    have := hq.2.2 e'
    refine ⟨?_, by show a < (sumE T n e (sk T n a + 1)).2.1; omega⟩
    show a + (((sumE T n e (sk T n a + 1)).2.2 ++ [_]).length : Int) ≤ (sumE T n e (sk T n a + 1)).2.1
    rw [List.length_append, List.length_singleton]
    omega
  · rw [if_neg z]; exact ⟨hk, hk2, fun e => by cases e⟩
theorem pUnit_g {T : Int → Int} {n : Int} {un cn : Int → Rr} {e : Nat} (hu : e ≠ 0 → PG n un) (hc : e ≠ 0 → PG n cn) : PG n (pUnit T n un cn e) := by
  intro a h0 h1
  have hk := sk_ge T n a
  have hk2 := sk_le (T := T) h1
  show PR n a (pUnit T n un cn e a)
  unfold pUnit
  by_cases z : sgn T n (sk T n a) = 33
  · have hz := sgn_nz (T := T) (n := n) (a := sk T n a) (by omega)
    rw [if_pos z]
    by_cases ez : e = 0
    · rw [if_pos ez]; exact ⟨hk, hk2, fun e => by cases e⟩
    · rw [if_neg ez]
      have hq := hu ez (sk T n a + 1) (by omega) (by omega)
      refine ⟨by show a ≤ (un (sk T n a + 1)).2.1; omega, hq.2.1, fun e' => ?_⟩
      have := hq.2.2 e'
      refine ⟨?_, by show a < (un (sk T n a + 1)).2.1; omega⟩
      show a + (((un (sk T n a + 1)).2.2 ++ [_]).length : Int) ≤ (un (sk T n a + 1)).2.1
      rw [List.length_append, List.length_singleton]
      omega
  · rw [if_neg z]
    by_cases z2 : sgn T n (sk T n a) = 40
    · have hz := sgn_nz (T := T) (n := n) (a := sk T n a) (by omega)
      rw [if_pos z2]
      by_cases ez : e = 0
      · rw [if_pos ez]; exact ⟨hk, hk2, fun e => by cases e⟩
      · rw [if_neg ez]
        have hq := hc ez (sk T n a + 1) (by omega) (by omega)
        exact thn_r (by decide) (PR.from (r := cn (sk T n a + 1)) hq (by omega))
    · rw [if_neg z2]
      have hq := sumE_g T n e (sk T n a) (by omega) (by omega)
      by_cases z3 : (sumE T n e (sk T n a)).1 = false
      · rw [if_pos z3]
        exact PR.from (r := sumE T n e (sk T n a)) hq hk
      · rw [if_neg z3]
        have h3 := hq.2.2 (by cases e : (sumE T n e (sk T n a)).1 <;> simp_all)
        have hp := pCmp_g (T := T) (n := n) (e := e) (sumE T n e (sk T n a)).2.1 (by omega) hq.2.1
        refine ⟨by show a ≤ (pCmp T n e (sumE T n e (sk T n a)).2.1).2.1; omega, hp.2.1, fun e' => ?_⟩
        have := hp.2.2 e'
        refine ⟨?_, by show a < (pCmp T n e (sumE T n e (sk T n a)).2.1).2.1; omega⟩
        show a + (((sumE T n e (sk T n a)).2.2 ++ (pCmp T n e (sumE T n e (sk T n a)).2.1).2.2).length : Int) ≤ (pCmp T n e (sumE T n e (sk T n a)).2.1).2.1
        rw [List.length_append]
        omega
theorem pTru_g {T : Int → Int} {n : Int} {u : Int → Rr} (hu : PG n u) : PG n (pTru T n u) := lp_g 240 hu (by decide)
theorem pCnd_g {T : Int → Int} {n : Int} {u : Int → Rr} (hu : PG n u) : PG n (pCnd T n u) := lp_g 240 (pTru_g hu) (by decide)
theorem untE_g (T : Int → Int) (n : Int) : ∀ e : Nat, PG n (untE T n e)
  | 0 => pUnit_g (fun h => absurd rfl h) (fun h => absurd rfl h)
  | e + 1 => pUnit_g (fun _ => untE_g T n e) (fun _ => pCnd_g (untE_g T n e))
