/-! ===== laws: steps and codes worked out alike ===== -/
def TyV : List Bool → List Int → Prop
  | [], [] => True
  | b :: ts, v :: s => (if b then v = 0 ∨ v = 1 else -1000000 ≤ v ∧ v ≤ 1000000) ∧ TyV ts s
  | _, _ => False
theorem TyV.len : ∀ {ts : List Bool} {s : List Int}, TyV ts s → ts.length = s.length
  | [], [], _ => rfl
  | _ :: ts, _ :: s, h => by
    have := TyV.len (ts := ts) (s := s) h.2
    simp [this]
  | [], _ :: _, h => h.elim
  | _ :: _, [], h => h.elim
theorem opv_r {c a b : Int} (ha : -1000000 ≤ a ∧ a ≤ 1000000) (hb : -1000000 ≤ b ∧ b ≤ 1000000) : -1000000 ≤ opv c a b ∧ opv c a b ≤ 1000000 := by
  unfold opv bnd
  repeat' split
  all_goals omega
theorem opv_t {c a b : Int} (hc : 6 ≤ c) : opv c a b = 0 ∨ opv c a b = 1 := by
  unfold opv
  rw [if_neg (by omega), if_neg (by omega), if_neg (by omega), if_neg (by omega)]
  repeat' split
  all_goals omega
/-- one step of a row of steps -/
theorem ty_cases {c v : Int} {r : Cd} {ts ts' : List Bool} {s : List Int} (h : tyC ((c, v) :: r) ts = some ts') (hs : TyV ts s) : s.length < 20 ∧
    ((c = 0 ∧ (0 ≤ v ∧ v ≤ 9999) ∧ tyC r (false :: ts) = some ts') ∨ (c = 1 ∧ (0 ≤ v ∧ v ≤ 5) ∧ tyC r (false :: ts) = some ts') ∨
    (c = 9 ∧ v = 0 ∧ ∃ a t s', s = a :: s' ∧ (a = 0 ∨ a = 1) ∧ TyV t s' ∧ tyC r (true :: t) = some ts') ∨
    (v = 0 ∧ ∃ a b t s' u, s = b :: a :: s' ∧ TyV t s' ∧ tyC r (u :: t) = some ts' ∧ (-1000000 ≤ a ∧ a ≤ 1000000) ∧ (-1000000 ≤ b ∧ b ≤ 1000000) ∧ TyV (u :: t) (opv c a b :: s') ∧ ((2 ≤ c ∧ c ≤ 8) ∨ ((c = 10 ∨ c = 11) ∧ (a = 0 ∨ a = 1) ∧ (b = 0 ∨ b = 1))))) := by
  have hl := hs.len
  unfold tyC at h
  by_cases c20 : 20 ≤ ts.length
  · rw [if_pos c20] at h; exact absurd h (by simp)
  rw [if_neg c20] at h
  refine ⟨by omega, ?_⟩
  by_cases c0 : c = 0
  · rw [if_pos c0] at h
    split at h
    next e => exact Or.inl ⟨c0, e, h⟩
    next => exact absurd h (by simp)
  rw [if_neg c0] at h
  by_cases c1 : c = 1
  · rw [if_pos c1] at h
    split at h
    next e => exact Or.inr (Or.inl ⟨c1, e, h⟩)
    next => exact absurd h (by simp)
  rw [if_neg c1] at h
  right; right
  by_cases c9 : c = 9
  · rw [if_pos c9] at h
    left
    split at h
    next t =>
      split at h
      next e =>
        match s, hs with
        | a :: s', hs => exact ⟨c9, e, a, t, s', rfl, by simpa using hs.1, hs.2, h⟩
      next => exact absurd h (by simp)
    next => exact absurd h (by simp)
  rw [if_neg c9] at h
  right
  by_cases c2 : 2 ≤ c ∧ c ≤ 5
  · rw [if_pos c2] at h
    split at h
    next t =>
      split at h
      next e =>
        match s, hs with
        | b :: a :: s', hs =>
          have hb : -1000000 ≤ b ∧ b ≤ 1000000 := by simpa using hs.1
          have ha : -1000000 ≤ a ∧ a ≤ 1000000 := by simpa using hs.2.1
          exact ⟨e, a, b, t, s', false, rfl, hs.2.2, h, ha, hb, ⟨by simpa using opv_r ha hb, hs.2.2⟩, Or.inl (by omega)⟩
      next => exact absurd h (by simp)
    next => exact absurd h (by simp)
  rw [if_neg c2] at h
  by_cases c6 : 6 ≤ c ∧ c ≤ 8
  · rw [if_pos c6] at h
    split at h
    next t =>
      split at h
      next e =>
        match s, hs with
        | b :: a :: s', hs =>
          have hb : -1000000 ≤ b ∧ b ≤ 1000000 := by simpa using hs.1
          have ha : -1000000 ≤ a ∧ a ≤ 1000000 := by simpa using hs.2.1
          exact ⟨e, a, b, t, s', true, rfl, hs.2.2, h, ha, hb, ⟨by simpa using opv_t c6.1, hs.2.2⟩, Or.inl (by omega)⟩
      next => exact absurd h (by simp)
    next => exact absurd h (by simp)
  rw [if_neg c6] at h
  by_cases c10 : c = 10 ∨ c = 11
  · rw [if_pos c10] at h
    split at h
    next t =>
      split at h
      next e =>
        match s, hs with
        | b :: a :: s', hs =>
          have hb : b = 0 ∨ b = 1 := by simpa using hs.1
          have ha : a = 0 ∨ a = 1 := by simpa using hs.2.1
          exact ⟨e, a, b, t, s', true, rfl, hs.2.2, h, by omega, by omega, ⟨by simpa using opv_t (by omega), hs.2.2⟩, Or.inr ⟨c10, ha, hb⟩⟩
      next => exact absurd h (by simp)
    next => exact absurd h (by simp)
  rw [if_neg c10] at h
  exact absurd h (by simp)
theorem ev0 {lt : Int → Int} {v : Int} {r : Cd} {s : List Int} : evC lt ((0, v) :: r) s = evC lt r (v :: s) := by
  conv => lhs; unfold evC
  rw [if_pos rfl]
theorem ev1 {lt : Int → Int} {v : Int} {r : Cd} {s : List Int} : evC lt ((1, v) :: r) s = evC lt r (lt v :: s) := by
  conv => lhs; unfold evC
  rw [if_neg (by decide), if_pos rfl]
theorem ev9 {lt : Int → Int} {v a : Int} {r : Cd} {s : List Int} : evC lt ((9, v) :: r) (a :: s) = evC lt r ((1 - a) :: s) := by
  conv => lhs; unfold evC
  rw [if_neg (by decide), if_neg (by decide), if_pos rfl]
theorem evj {lt : Int → Int} {c v a b : Int} {r : Cd} {s : List Int} (h0 : c ≠ 0) (h1 : c ≠ 1) (h9 : c ≠ 9) : evC lt ((c, v) :: r) (b :: a :: s) = evC lt r (opv c a b :: s) := by
  conv => lhs; unfold evC
  rw [if_neg h0, if_neg h1, if_neg h9]
/-- a stack in an array -/
def StK (f : Int → Int) : List Int → Prop
  | [] => True
  | a :: s => f s.length = a ∧ StK f s
theorem StK.cg {f f' : Int → Int} : ∀ {s : List Int}, StK f s → (∀ j, 0 ≤ j → j < s.length → f' j = f j) → StK f' s
  | [], _, _ => trivial
  | a :: s, h, e => ⟨by rw [e _ (by omega) (by simp)]; exact h.1, StK.cg h.2 (fun j h1 h2 => e j h1 (by simp; omega))⟩
def At1 (f : Int → Int) : Int → List Int → Prop
  | _, [] => True
  | o, x :: r => f o = x ∧ At1 f (o + 1) r
theorem At1.ap {f : Int → Int} : ∀ {a : List Int} {o : Int} {b : List Int}, At1 f o (a ++ b) → At1 f o a ∧ At1 f (o + a.length) b
  | [], o, b, h => ⟨trivial, by simpa using h⟩
  | x :: a, o, b, h => by
    have h2 : At1 f (o + 1) (a ++ b) := h.2
    obtain ⟨p, q⟩ := At1.ap h2
    refine ⟨⟨h.1, p⟩, ?_⟩
    have e : o + ((x :: a).length : Int) = o + 1 + a.length := by simp; omega
    rw [e]
    exact q
theorem At1.of {f : Int → Int} : ∀ {a : List Int} {o : Int}, (∀ j : Nat, j < a.length → f (o + j) = a.getD j 0) → At1 f o a
  | [], _, _ => trivial
  | x :: a, o, h => by
    refine ⟨?_, At1.of (fun j hj => ?_)⟩
    · have := h 0 (by simp)
      simpa using this
    · have := h (j + 1) (by simp; omega)
      have e : o + ((j + 1 : Nat) : Int) = o + 1 + j := by omega
      rw [e] at this
      simpa using this
def At2 (f g : Int → Int) : Int → Cd → Prop
  | _, [] => True
  | o, p :: r => (f o = p.1 ∧ g o = p.2) ∧ At2 f g (o + 1) r
theorem At2.ap {f g : Int → Int} : ∀ {a : Cd} {o : Int} {b : Cd}, At2 f g o (a ++ b) → At2 f g o a ∧ At2 f g (o + a.length) b
  | [], o, b, h => ⟨trivial, by simpa using h⟩
  | x :: a, o, b, h => by
    have h2 : At2 f g (o + 1) (a ++ b) := h.2
    obtain ⟨p, q⟩ := At2.ap h2
    refine ⟨⟨h.1, p⟩, ?_⟩
    have e : o + ((x :: a).length : Int) = o + 1 + a.length := by simp; omega
    rw [e]
    exact q
theorem At2.of {f g : Int → Int} : ∀ {a : Cd} {o : Int}, (∀ j : Nat, j < a.length → f (o + j) = (a.getD j (0, 0)).1 ∧ g (o + j) = (a.getD j (0, 0)).2) → At2 f g o a
  | [], _, _ => trivial
  | x :: a, o, h => by
    refine ⟨?_, At2.of (fun j hj => ?_)⟩
    · have := h 0 (by simp)
      simpa using this
    · have := h (j + 1) (by simp; omega)
      have e : o + ((j + 1 : Nat) : Int) = o + 1 + j := by omega
      rw [e] at this
      simpa using this
theorem jDv_e {a b : Int} (ha : -1000000 ≤ a ∧ a ≤ 1000000) (hb : -1000000 ≤ b ∧ b ≤ 1000000) : jDv a b = Int.tdiv a b ∧ -1000000 ≤ Int.tdiv a b ∧ Int.tdiv a b ≤ 1000000 := by
  have ea : (Int64.ofInt a).toInt = a := Int64.toInt_ofInt_of_le (by omega) (by omega)
  have eb : (Int64.ofInt b).toInt = b := Int64.toInt_ofInt_of_le (by omega) (by omega)
  have h1 : (Int.tdiv a b).natAbs ≤ a.natAbs := by
    rw [Int.natAbs_tdiv]
    exact Nat.div_le_self _ _
  unfold jDv
  rw [Int64.toInt_div, ea, eb, Int.bmod_eq_of_le (by omega) (by omega)]
  omega
theorem ne64z {z : Int} (hz : -1000000 ≤ z ∧ z ≤ 1000000) (h : z ≠ 0) : ¬ Int64.ofInt z = 0 := by
  intro e
  have : (Int64.ofInt z).toInt = (0 : Int64).toInt := by rw [e]
  rw [Int64.toInt_ofInt_of_le (by omega) (by omega)] at this
  have h0 : (0 : Int64).toInt = 0 := rfl
  omega
theorem mul_r {a b : Int} (ha : -1000000 ≤ a ∧ a ≤ 1000000) (hb : -1000000 ≤ b ∧ b ≤ 1000000) : -1000000000000 ≤ a * b ∧ a * b ≤ 1000000000000 := by
  have h : (a * b).natAbs ≤ 1000000 * 1000000 := by
    rw [Int.natAbs_mul]
    exact Nat.mul_le_mul (by omega) (by omega)
  omega
theorem jA01 {a b : Int} (ha : a = 0 ∨ a = 1) (hb : b = 0 ∨ b = 1) : jA a b = if a ≠ 0 ∧ b ≠ 0 then 1 else 0 := by
  rcases ha with rfl | rfl <;> rcases hb with rfl | rfl <;> decide
theorem jO01 {a b : Int} (ha : a = 0 ∨ a = 1) (hb : b = 0 ∨ b = 1) : jO a b = if a ≠ 0 ∨ b ≠ 0 then 1 else 0 := by
  rcases ha with rfl | rfl <;> rcases hb with rfl | rfl <;> decide
theorem bnd_id {v : Int} (h : -1000000 ≤ v ∧ v ≤ 1000000) : bnd v = v := by unfold bnd; omega
section HL
variable {X : Cx} {d : Nat} {m : Mm} {Q : Int → Mm → Prop}
theorem W_joined_c (hB : Bsh X.2.2.1) {c a b : Int} (ha : -1000000 ≤ a ∧ a ≤ 1000000) (hb : -1000000 ≤ b ∧ b ≤ 1000000) (hc : (2 ≤ c ∧ c ≤ 8) ∨ ((c = 10 ∨ c = 11) ∧ (a = 0 ∨ a = 1) ∧ (b = 0 ∨ b = 1))) (h : ∀ v, bnd v = opv c a b → (-10000000000000 ≤ v ∧ v ≤ 10000000000000) → Q v m) : W_joined X d (srt c) a b m Q := by
  have hm := mul_r ha hb
  have hd := jDv_e ha hb
  have cs : c = 2 ∨ c = 3 ∨ c = 4 ∨ c = 5 ∨ c = 6 ∨ c = 7 ∨ c = 8 ∨ c = 10 ∨ c = 11 := by omega
  rcases cs with rfl | rfl | rfl | rfl | rfl | rfl | rfl | rfl | rfl
  · exact W_joinedw hB ⟨by decide, fun _ => h _ rfl (by omega), fun e => absurd e (by decide), fun e => absurd e (by decide), fun e => absurd e (by decide), fun e => absurd e (by decide), fun e => absurd e (by decide), fun e => absurd e (by decide), fun e => absurd e (by decide), fun e => absurd rfl e.1⟩
  · exact W_joinedw hB ⟨by decide, fun e => absurd e (by decide), fun _ => h _ rfl (by omega), fun e => absurd e (by decide), fun e => absurd e (by decide), fun e => absurd e (by decide), fun e => absurd e (by decide), fun e => absurd e (by decide), fun e => absurd e (by decide), fun e => absurd rfl e.2.1⟩
  · exact W_joinedw hB ⟨by decide, fun e => absurd e (by decide), fun e => absurd e (by decide), fun _ => h _ rfl (by omega), fun e => absurd e (by decide), fun e => absurd e (by decide), fun e => absurd e (by decide), fun e => absurd e (by decide), fun e => absurd e (by decide), fun e => absurd rfl e.2.2.1⟩
  · refine W_joinedw hB ⟨by decide, fun e => absurd e (by decide), fun e => absurd e (by decide), fun e => absurd e (by decide), fun _ => ⟨by omega, fun z => ?_, fun z => ?_⟩, fun e => absurd e (by decide), fun e => absurd e (by decide), fun e => absurd e (by decide), fun e => absurd e (by decide), fun e => absurd rfl e.2.2.2.1⟩
    · have hz : b ≠ 0 := by
        intro e
        rw [e] at z
        exact z rfl
      refine ⟨ne64z hb hz, h _ ?_ (by omega)⟩
      rw [hd.1]
      show _ = (if b = 0 then 0 else bnd (Int.tdiv a b))
      rw [if_neg hz]
    · have hz : b = 0 := by
        split at z
        · omega
        · split at z
          · assumption
          · omega
      refine h 0 ?_ (by omega)
      show _ = (if b = 0 then 0 else bnd (Int.tdiv a b))
      rw [if_pos hz]
      rfl
  · refine W_joinedw hB ⟨by decide, fun e => absurd e (by decide), fun e => absurd e (by decide), fun e => absurd e (by decide), fun e => absurd e (by decide), fun _ => ⟨by omega, by omega, fun z => h 0 ?_ (by omega), fun z => h 1 ?_ (by omega)⟩, fun e => absurd e (by decide), fun e => absurd e (by decide), fun e => absurd e (by decide), fun e => absurd rfl e.2.2.2.2.1⟩
    · show (0 : Int) = (if a = b then 1 else 0)
      rw [if_neg (by intro e; rw [if_neg (by omega), if_pos e] at z; exact z rfl)]
    · show (1 : Int) = (if a = b then 1 else 0)
      rw [if_pos (by split at z; · omega
                     · split at z <;> omega)]
  · refine W_joinedw hB ⟨by decide, fun e => absurd e (by decide), fun e => absurd e (by decide), fun e => absurd e (by decide), fun e => absurd e (by decide), fun e => absurd e (by decide), fun _ => ⟨by omega, by omega, fun z => h 0 ?_ (by omega), fun z => h 1 ?_ (by omega)⟩, fun e => absurd e (by decide), fun e => absurd e (by decide), fun e => absurd rfl e.2.2.2.2.2.1⟩
    · show (0 : Int) = (if a < b then 1 else 0)
      rw [if_neg (by intro e; rw [if_neg (by omega), if_neg (by omega)] at z; omega)]
    · show (1 : Int) = (if a < b then 1 else 0)
      rw [if_pos (by split at z; · omega
                     · split at z <;> omega)]
  · refine W_joinedw hB ⟨by decide, fun e => absurd e (by decide), fun e => absurd e (by decide), fun e => absurd e (by decide), fun e => absurd e (by decide), fun e => absurd e (by decide), fun e => absurd e (by decide), fun _ => ⟨by omega, by omega, fun z => h 0 ?_ (by omega), fun z => h 1 ?_ (by omega)⟩, fun e => absurd e (by decide), fun e => absurd rfl e.2.2.2.2.2.2.1⟩
    · show (0 : Int) = (if b < a then 1 else 0)
      rw [if_neg (by intro e; rw [if_pos e] at z; omega)]
    · show (1 : Int) = (if b < a then 1 else 0)
      rw [if_pos (by split at z; · assumption
                     · split at z <;> omega)]
  · have h2 : (a = 0 ∨ a = 1) ∧ (b = 0 ∨ b = 1) := by omega
    refine W_joinedw hB ⟨by decide, fun e => absurd e (by decide), fun e => absurd e (by decide), fun e => absurd e (by decide), fun e => absurd e (by decide), fun e => absurd e (by decide), fun e => absurd e (by decide), fun e => absurd e (by decide), fun _ => h _ ?_ ?_, fun e => absurd rfl e.2.2.2.2.2.2.2⟩
    · rw [jA01 h2.1 h2.2]
      show bnd _ = (if a ≠ 0 ∧ b ≠ 0 then 1 else 0)
      split <;> rfl
    · rw [jA01 h2.1 h2.2]
      split <;> omega
  · have h2 : (a = 0 ∨ a = 1) ∧ (b = 0 ∨ b = 1) := by omega
    refine W_joinedw hB ⟨by decide, fun e => absurd e (by decide), fun e => absurd e (by decide), fun e => absurd e (by decide), fun e => absurd e (by decide), fun e => absurd e (by decide), fun e => absurd e (by decide), fun e => absurd e (by decide), fun e => absurd e (by decide), fun _ => h _ ?_ ?_⟩
    · rw [jO01 h2.1 h2.2]
      show bnd _ = (if a ≠ 0 ∨ b ≠ 0 then 1 else 0)
      split <;> rfl
    · rw [jO01 h2.1 h2.2]
      split <;> omega
end HL
