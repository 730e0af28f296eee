/-! ===== contracts in the manner of what comes behind: leaves ===== -/
abbrev R3 (x : Int) : Prop := -2147483648 ≤ x ∧ x < 2147483648
theorem q1e {A B : Prop} (h : B) : (-2147483648 ≤ (1 : Int) ∧ (1 : Int) < 2147483648) ∧ ((1 : Int) = 0 → A) ∧ ((1 : Int) ≠ 0 → B) := ⟨by decide, fun e => absurd e (by decide), fun _ => h⟩
theorem q1n {A B : Prop} (h : A) : (-2147483648 ≤ (1 : Int) ∧ (1 : Int) < 2147483648) ∧ ((1 : Int) ≠ 0 → A) ∧ ((1 : Int) = 0 → B) := ⟨by decide, fun _ => h, fun e => absurd e (by decide)⟩
theorem q0e {A B : Prop} (h : A) : (-2147483648 ≤ (0 : Int) ∧ (0 : Int) < 2147483648) ∧ ((0 : Int) = 0 → A) ∧ ((0 : Int) ≠ 0 → B) := ⟨by decide, fun _ => h, fun e => absurd rfl e⟩
theorem q0n {A B : Prop} (h : B) : (-2147483648 ≤ (0 : Int) ∧ (0 : Int) < 2147483648) ∧ ((0 : Int) ≠ 0 → A) ∧ ((0 : Int) = 0 → B) := ⟨by decide, fun e => absurd rfl e, fun _ => h⟩
/-- a pure answer -/
theorem rqP {g : aPg} {d mi n : Nat} {sh : List Sh} {m : Mm} {v : Int} {Q : Int → Mm → Prop} {x : aS} (hr : Ru g d mi (some (vI v), Wd sh m, n) x) (h : Q v m) : Rq g d mi sh n Q x := ⟨v, m, h, hr⟩
theorem ruP {g : aPg} {d mi n : Nat} {sh : List Sh} {m : Mm} {Q : Mm → Prop} {x : aS} (hr : Ru g d mi (none, Wd sh m, n) x) (h : Q m) : Ru0 g d mi sh n Q x := ⟨m, h, hr⟩
section Leaves
variable {X : Cx} {d : Nat} {m : Mm} {Q : Int → Mm → Prop} {Q0 : Mm → Prop}
theorem M_in_c {v lo hi : Int} (h1 : R3 v) (h2 : R3 lo) (h3 : R3 hi) (hy : lo ≤ v → v ≤ hi → Q 1 m) (hn : (v < lo ∨ hi < v) → Q 0 m) : M_in X d v lo hi m Q := by
  have hr := m_in (w := Wd X.2.2.1 m) X.1 X.2.1 d X.2.2.2 h1 h2 h3
  by_cases c : lo ≤ v ∧ v ≤ hi
  · rw [if_pos c] at hr
    exact rqP hr (hy c.1 c.2)
  · rw [if_neg c] at hr
    exact rqP hr (hn (by omega))
theorem M_has_c {x k : Int} (h0 : bit x k = 0 → Q 0 m) (h1 : bit x k = 1 → Q 1 m) : M_has X d x k m Q := by
  have hr := m_has (w := Wd X.2.2.1 m) X.1 X.2.1 d X.2.2.2 (x := x) (k := k)
  rcases bit01 x k with c | c
  · rw [c] at hr
    exact rqP hr (h0 c)
  · rw [c] at hr
    exact rqP hr (h1 c)
theorem M_of_c (hB : Bsh X.2.2.1) {i k : Int} (h : 0 ≤ 4 * i + k ∧ 4 * i + k < 24) (hq : Q (m 100 (4 * i + k)) m) : M_of X d i k m Q := rqP (m_of X.1 X.2.1 d X.2.2.2 hB h) hq
theorem M_ofBump_c (hB : Bsh X.2.2.1) {i k : Int} (h : 0 ≤ 4 * i + k ∧ 4 * i + k < 24) (hq : Q (m 99 (4 * i + k)) m) : M_ofBump X d i k m Q := rqP (m_ofBump X.1 X.2.1 d X.2.2.2 hB h) hq
theorem M_isMember_c (hB : Bsh X.2.2.1) (hn : 0 ≤ m 83 28 ∧ m 83 28 ≤ 6) {i : Int} (h : R3 i) (hy : 0 ≤ i → i < m 83 28 → Q 1 m) (ho : (i < 0 ∨ m 83 28 ≤ i) → Q 0 m) : M_isMember X (d + 1) i m Q := by
  have hr := m_isMember X.1 X.2.1 d X.2.2.2 hB hn h
  by_cases c : 0 ≤ i ∧ i ≤ m 83 28 - 1
  · rw [if_pos c] at hr
    exact rqP hr (hy c.1 (by omega))
  · rw [if_neg c] at hr
    exact rqP hr (ho (by omega))
theorem M_isBump_c (hB : Bsh X.2.2.1) (hn : 0 ≤ m 83 27 ∧ m 83 27 ≤ 6) {i : Int} (h : R3 i) (hy : 0 ≤ i → i < m 83 27 → Q 1 m) (ho : (i < 0 ∨ m 83 27 ≤ i) → Q 0 m) : M_isBump X (d + 1) i m Q := by
  have hr := m_isBump X.1 X.2.1 d X.2.2.2 hB hn h
  by_cases c : 0 ≤ i ∧ i ≤ m 83 27 - 1
  · rw [if_pos c] at hr
    exact rqP hr (hy c.1 (by omega))
  · rw [if_neg c] at hr
    exact rqP hr (ho (by omega))
theorem M_isOn_c (hB : Bsh X.2.2.1) {i : Int} (hy : bit (m 101 18) i = 0 → Q 1 m) (ho : bit (m 101 18) i = 1 → Q 0 m) : M_isOn X (d + 1) i m Q := by
  have hr := m_isOn X.1 X.2.1 d X.2.2.2 (m := m) hB (i := i)
  rcases bit01 (m 101 18) i with c | c
  · rw [c] at hr
    exact rqP hr (hy c)
  · rw [c] at hr
    exact rqP hr (ho c)
theorem M_everybody_c (hB : Bsh X.2.2.1) (hn : 0 ≤ m 83 28 ∧ m 83 28 ≤ 6) (h : Q (pw (m 83 28) - 1) m) : M_everybody X d m Q := by
  have hr := m_everybody X.1 X.2.1 d X.2.2.2 (m := m) hB
  rw [pw_e hn] at hr
  exact rqP hr h
theorem M_isLast_c (hB : Bsh X.2.2.1) (h1 : 0 ≤ m 101 21 ∧ m 101 21 ≤ 1000) (h2 : 0 ≤ m 98 3 ∧ m 98 3 ≤ 1000) (hy : m 101 21 = m 98 3 → Q 1 m) (ho : m 101 21 ≠ m 98 3 → Q 0 m) : M_isLast X d m Q := by
  have hr := m_isLast X.1 X.2.1 d X.2.2.2 (m := m) hB h1 h2
  by_cases c : m 101 21 = m 98 3
  · rw [if_pos c] at hr
    exact rqP hr (hy c)
  · rw [if_neg c] at hr
    exact rqP hr (ho c)
theorem M_sideOf_c (hB : Bsh X.2.2.1) (hw : 3 ≤ m 98 0 ∧ m 98 0 ≤ 9) {c : Int} (h : -1000 ≤ c ∧ c ≤ 1000) (hq : Q (sideA (kM m) c) m) : M_sideOf X d c m Q := rqP (m_sideOf X.1 X.2.1 d X.2.2.2 hB hw h) hq
theorem M_putAside_c (hB : Bsh X.2.2.1) (h : Q0 (up (upR m 104 0 24 (m 101)) 83 34 0)) : M_putAside X d m Q0 := ruP (m_putAside X.1 X.2.1 d X.2.2.2 hB) h
theorem M_takeBack_c (hB : Bsh X.2.2.1) (h : Q0 (upR m 101 0 24 (m 104))) : M_takeBack X d m Q0 := ruP (m_takeBack X.1 X.2.1 d X.2.2.2 hB) h
/-! the class -/
theorem T_of_c {x k : Int} (h : Q (nib x k) m) : T_of X d x k m Q := rqP (c_of X.1 X.2.1 d X.2.2.2) h
theorem T_with_c {x k v : Int} (h : Q (wth x k v) m) : T_with X d x k v m Q := rqP (c_with X.1 X.2.1 d X.2.2.2) h
theorem T_weightOf_c (hB : Bsh X.2.2.1) {s : Nat} (hs : sO s) {k : Int} (h : Q (nib (m s 0) k) m) : T_weightOf X d s k m Q := rqP (c_weightOf X.1 X.2.1 d X.2.2.2 (sSh hB hs)) h
theorem T_leanOf_c (hB : Bsh X.2.2.1) {s : Nat} (hs : sO s) {k : Int} (h : Q (nib (m s 1) k) m) : T_leanOf X d s k m Q := rqP (c_leanOf X.1 X.2.1 d X.2.2.2 (sSh hB hs)) h
theorem T_heelsOf_c (hB : Bsh X.2.2.1) {s : Nat} (hs : sO s) {k : Int} (h : Q (nib (m s 2) k) m) : T_heelsOf X d s k m Q := rqP (c_heelsOf X.1 X.2.1 d X.2.2.2 (sSh hB hs)) h
theorem T_seatOf_c (hB : Bsh X.2.2.1) {s : Nat} (hs : sO s) {k : Int} (h : Q (nib (m s 3) k) m) : T_seatOf X d s k m Q := rqP (c_seatOf X.1 X.2.1 d X.2.2.2 (sSh hB hs)) h
theorem T_isAboard_c (hB : Bsh X.2.2.1) {s : Nat} (hs : sO s) {k : Int} (h0 : bit (m s 4) k = 0 → Q 0 m) (h1 : bit (m s 4) k = 1 → Q 1 m) : T_isAboard X d s k m Q := by
  have hr := c_isAboard X.1 X.2.1 d X.2.2.2 (m := m) (k := k) (sSh hB hs)
  rcases bit01 (m s 4) k with c | c
  · rw [c] at hr
    exact rqP hr (h0 c)
  · rw [c] at hr
    exact rqP hr (h1 c)
theorem K_lastRow_c (hB : Bsh X.2.2.1) {c : Nat} (hc : cO c) (h : Q (m (c + 1) 3) m) : K_lastRow X d c m Q := rqP (c_lastRow X.1 X.2.1 d X.2.2.2 (csh_of hB hc)) h
theorem K_ofBump_c (hB : Bsh X.2.2.1) {c : Nat} (hc : cO c) {i k : Int} (hi : 0 ≤ 4 * i + k ∧ 4 * i + k < 24) (h : Q (m (c + 2) (4 * i + k)) m) : K_ofBump X d c i k m Q := rqP (c_ofBump X.1 X.2.1 d X.2.2.2 (csh_of hB hc) hi) h
theorem K_ofMember_c (hB : Bsh X.2.2.1) {c : Nat} (hc : cO c) {i k : Int} (hi : 0 ≤ 4 * i + k ∧ 4 * i + k < 24) (h : Q (m (c + 3) (4 * i + k)) m) : K_ofMember X d c i k m Q := rqP (c_ofMember X.1 X.2.1 d X.2.2.2 (csh_of hB hc) hi) h
theorem K_sightOf_c (hB : Bsh X.2.2.1) {c : Nat} (hc : cO c) {i : Int} (hi : 0 ≤ 4 * i + 3 ∧ 4 * i + 3 < 24) (h : Q (m (c + 3) (4 * i + 3)) m) : K_sightOf X d c i m Q := rqP (c_sightOf X.1 X.2.1 d X.2.2.2 (csh_of hB hc) hi) h
/-- a state is copied -/
def cpS (m : Mm) (s o : Nat) : Mm := fun a j => if a = s ∧ 0 ≤ j ∧ j ≤ 10 then m o j else m a j
theorem T_copy_c (hB : Bsh X.2.2.1) {s o : Nat} (hne : s ≠ o) (hs : sO s) (ho : sO o) (h : Q0 (cpS m s o)) : T_copy X d s o m Q0 := by
  obtain ⟨m', ⟨h1, h2, h3⟩, hr⟩ := c_copy X.1 X.2.1 d X.2.2.2 (m := m) hne (sSh hB hs) (sSh hB ho)
  have e : m' = cpS m s o := by
    funext a j
    unfold cpS
    by_cases c : a = s
    · subst c
      by_cases c2 : 0 ≤ j ∧ j ≤ 10
      · rw [if_pos ⟨rfl, c2⟩]
        exact h1 j c2.1 c2.2
      · rw [if_neg (fun e => c2 e.2)]
        exact h2 j (by omega)
    · rw [if_neg (fun e => c e.1), h3 a (by simp; exact c)]
  exact ⟨m', by rw [e]; exact h, hr⟩
theorem V_isMember_c (hB : Bsh X.2.2.1) {c : Nat} (hc : cO c) (h6 : m 0 6 = (c : Int)) (hn : 0 ≤ m c 4 ∧ m c 4 ≤ 6) {i : Int} (h : R3 i) (hy : 0 ≤ i → i < m c 4 → Q 1 m) (ho : (i < 0 ∨ m c 4 ≤ i) → Q 0 m) : V_isMember X d i m Q := by
  refine V_isMemberw hB ⟨h, fun z => ho (Or.inl z), fun z => ⟨c, hc, h6, by omega, fun z2 => ho (Or.inr z2), fun z2 => hy z z2⟩⟩
theorem V_isBump_c (hB : Bsh X.2.2.1) {c : Nat} (hc : cO c) (h6 : m 0 6 = (c : Int)) (hn : 0 ≤ m c 3 ∧ m c 3 ≤ 6) {i : Int} (h : R3 i) (hy : 0 ≤ i → i < m c 3 → Q 1 m) (ho : (i < 0 ∨ m c 3 ≤ i) → Q 0 m) : V_isBump X d i m Q := by
  refine V_isBumpw hB ⟨h, fun z => ho (Or.inl z), fun z => ⟨c, hc, h6, by omega, fun z2 => ho (Or.inr z2), fun z2 => hy z z2⟩⟩
theorem V_hasCanton_c (hB : Bsh X.2.2.1) {c : Nat} (hc : cO c) (h6 : m 0 6 = (c : Int)) (hn : 0 ≤ m c 4 ∧ m c 4 ≤ 6) (hy : 0 < m c 4 → Q 1 m) (ho : m c 4 = 0 → Q 0 m) : V_hasCanton X d m Q := by
  refine V_hasCantonw hB ⟨c, hc, h6, by omega, fun z => ho (by omega), fun z => hy (by omega)⟩
theorem V_isSide_c {i : Int} (hB : Bsh X.2.2.1) (h : R3 i) (hy : 0 ≤ i → i ≤ 2 → Q 1 m) (ho : (i < 0 ∨ 2 < i) → Q 0 m) : V_isSide X d i m Q := by
  refine V_isSidew hB ⟨h, fun z => ho (Or.inl z), fun z => ⟨fun z2 => ho (Or.inr z2), fun z2 => hy z z2⟩⟩
theorem V_refuse_c (hB : Bsh X.2.2.1) {i : Int} (hi : 0 ≤ i ∧ i < 5) (h : Q (-1) (up m 82 i (m 82 i + 1))) : V_refuse X d i m Q := V_refusew hB ⟨hi, h⟩
end Leaves
