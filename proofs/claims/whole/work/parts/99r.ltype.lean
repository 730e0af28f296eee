/-! ===== the text of a law: its codes are of the right kinds; clauses and laws ===== -/
def TyP (b : Bool) (C e : Nat) (cs : Cd) : Prop := ∀ (s : List Bool) (r : Cd), s.length + 2 * e ≤ C → tyC (cs ++ r) s = tyC r (b :: s)
def opT (b : Bool) (o : Int) : Prop := (b = false ∧ 2 ≤ o ∧ o ≤ 5) ∨ (b = true ∧ (o = 10 ∨ o = 11))
theorem ty_op {b : Bool} {o : Int} {s : List Bool} {r : Cd} (h : opT b o) (hs : s.length ≤ 17) : tyC ((o, 0) :: r) (b :: b :: s) = tyC r (b :: s) := by
  have hl : ¬ 20 ≤ (b :: b :: s).length := by simp; omega
  rcases h with ⟨rfl, h⟩ | ⟨rfl, h⟩
  · conv => lhs; unfold tyC
    rw [if_neg hl, if_neg (by omega), if_neg (by omega), if_neg (by omega), if_pos h]
    rfl
  · conv => lhs; unfold tyC
    rw [if_neg hl, if_neg (by omega), if_neg (by omega), if_neg (by omega), if_neg (by omega), if_neg (by omega), if_pos h]
    rfl
theorem ty_cmp {o : Int} {s : List Bool} {r : Cd} (h : 6 ≤ o ∧ o ≤ 8) (hs : s.length ≤ 17) : tyC ((o, 0) :: r) (false :: false :: s) = tyC r (true :: s) := by
  have hl : ¬ 20 ≤ (false :: false :: s).length := by simp; omega
  conv => lhs; unfold tyC
  rw [if_neg hl, if_neg (by omega), if_neg (by omega), if_neg (by omega), if_neg (by omega), if_pos h]
  rfl
theorem ty_not {s : List Bool} {r : Cd} (hs : s.length ≤ 18) : tyC ((9, 0) :: r) (true :: s) = tyC r (true :: s) := by
  have hl : ¬ 20 ≤ (true :: s).length := by simp; omega
  conv => lhs; unfold tyC
  rw [if_neg hl, if_neg (by decide), if_neg (by decide), if_pos rfl]
  rfl
theorem ty_num {v : Int} {s : List Bool} {r : Cd} (hv : 0 ≤ v ∧ v ≤ 9999) (hs : s.length ≤ 18) : tyC ((0, v) :: r) s = tyC r (false :: s) := by
  conv => lhs; unfold tyC
  rw [if_neg (by omega), if_pos rfl, if_pos hv]
theorem ty_let {v : Int} {s : List Bool} {r : Cd} (hv : 0 ≤ v ∧ v ≤ 5) (hs : s.length ≤ 18) : tyC ((1, v) :: r) s = tyC r (false :: s) := by
  conv => lhs; unfold tyC
  rw [if_neg (by omega), if_neg (by decide), if_pos rfl, if_pos hv]
def TyF (b : Bool) (C e : Nat) (F : Int → Rr) : Prop := ∀ a, (F a).1 = true → TyP b C e (F a).2.2
theorem thn_ty {T : Int → Int} {n c : Int} {r : Rr} {b : Bool} {C e : Nat} (h : r.1 = true → TyP b C e r.2.2) : (thn T n c r).1 = true → TyP b C e (thn T n c r).2.2 := by
  unfold thn
  by_cases z : r.1 = false
  · rw [if_pos z]; exact h
  · rw [if_neg z]
    have h := h (by cases e : r.1 <;> simp_all)
    by_cases z2 : sgn T n (sk T n r.2.1) = c
    · rw [if_pos z2]; exact fun _ => h
    · rw [if_neg z2]; exact fun e => by cases e
theorem ltO_r (c : Int) : ltO c = -1 ∨ (0 ≤ ltO c ∧ ltO c ≤ 5) := by
  unfold ltO
  repeat' split
  all_goals omega
theorem lpP_ty {T : Int → Int} {n : Int} {it : Int → Rr} {s1 s2 o1 o2 : Int} {b : Bool} {C e : Nat} (hC : C ≤ 17) (hit : TyF b (C + 1) e it) (ho : opT b o1 ∧ opT b o2) : ∀ (k : Nat) (r : Rr), (r.1 = true → TyP b C e r.2.2) → ((lpP T n it s1 s2 o1 o2 k r).1 = true → TyP b C e (lpP T n it s1 s2 o1 o2 k r).2.2)
  | 0, r, h => h
  | k + 1, r, h => by
    unfold lpP
    by_cases z : r.1 = false
    · rw [if_pos z]; exact h
    · rw [if_neg z]
      have h := h (by cases e : r.1 <;> simp_all)
      by_cases z2 : sgn T n (sk T n r.2.1) = s1 ∨ sgn T n (sk T n r.2.1) = s2
      · rw [if_pos z2]
        refine lpP_ty hC hit ho k _ (fun e1 s r' hs => ?_)
        have h2 := hit _ e1
        have ho' : opT b (if sgn T n (sk T n r.2.1) = s1 then o1 else o2) := by
          split
          · exact ho.1
          · exact ho.2
        show tyC ((r.2.2 ++ ((it (sk T n r.2.1 + 1)).2.2 ++ [((if sgn T n (sk T n r.2.1) = s1 then o1 else o2), 0)])) ++ r') s = tyC r' (b :: s)
        rw [List.append_assoc, List.append_assoc, h s _ hs, h2 (b :: s) _ (by simp; omega)]
        exact ty_op ho' (by omega)
      · rw [if_neg z2]; exact fun _ => h
theorem TyP.lo {b : Bool} {C C' e : Nat} {cs : Cd} (h : TyP b C e cs) (hc : C' ≤ C) : TyP b C' e cs := fun s r hs => h s r (by omega)
theorem pAtom_ty {T : Int → Int} {n : Int} {inn : Int → Rr} {e : Nat} (hi : e ≠ 0 → TyF false 16 (e - 1) inn) : TyF false 18 e (pAtom T n inn e) := by
  intro a
  unfold pAtom
  by_cases z : sgn T n (sk T n a) = 91
  · rw [if_pos z]
    by_cases ez : e = 0
    · rw [if_pos ez]; exact fun e => by cases e
    · rw [if_neg ez]
      exact thn_ty (fun e1 s r hs => hi ez _ e1 s r (by omega))
  · rw [if_neg z]
    by_cases z2 : 48 ≤ sgn T n (sk T n a) ∧ sgn T n (sk T n a) ≤ 57
    · rw [if_pos z2]
      intro _ s r hs
      have := nmL_v (T := T) (n := n) 4 (sk T n a) 0 0 (by decide) (by decide)
      show tyC ((0, (nmL T n 4 (sk T n a) 0).2) :: r) s = _
      exact ty_num ⟨this.1, by have h2 := this.2; have e4 : ((0 : Int) + 1) * 10 ^ 4 - 1 = 9999 := by decide
                               omega⟩ (by omega)
    · rw [if_neg z2]
      by_cases z3 : ltO (sgn T n (sk T n a)) = -1
      · rw [if_pos z3]; exact fun e => by cases e
      · rw [if_neg z3]
        intro _ s r hs
        have := ltO_r (sgn T n (sk T n a))
        show tyC ((1, ltO (sgn T n (sk T n a))) :: r) s = _
        exact ty_let (by omega) (by omega)
theorem pTerm_ty {T : Int → Int} {n : Int} {inn : Int → Rr} {e : Nat} (hi : e ≠ 0 → TyF false 16 (e - 1) inn) : TyF false 17 e (pTerm T n inn e) := fun a => lpP_ty (by decide) (pAtom_ty hi) ⟨Or.inl ⟨rfl, by decide, by decide⟩, Or.inl ⟨rfl, by decide, by decide⟩⟩ 240 _ (fun e1 => (pAtom_ty hi a e1).lo (by decide))
theorem pSum_ty {T : Int → Int} {n : Int} {inn : Int → Rr} {e : Nat} (hi : e ≠ 0 → TyF false 16 (e - 1) inn) : TyF false 16 e (pSum T n inn e) := fun a => lpP_ty (by decide) (pTerm_ty hi) ⟨Or.inl ⟨rfl, by decide, by decide⟩, Or.inl ⟨rfl, by decide, by decide⟩⟩ 240 _ (fun e1 => (pTerm_ty hi a e1).lo (by decide))
theorem sumE_ty (T : Int → Int) (n : Int) : ∀ e : Nat, TyF false 16 e (sumE T n e)
  | 0 => pSum_ty (fun h => absurd rfl h)
  | e + 1 => pSum_ty (fun _ => sumE_ty T n e)
theorem cmO_r (c : Int) : 6 ≤ cmO c ∧ cmO c ≤ 8 := by
  unfold cmO
  repeat' split
  all_goals decide
/-- a comparison behind a sum -/
theorem pCmp_ty {T : Int → Int} {n : Int} {e : Nat} {cs : Cd} (hc : TyP false 16 e cs) (a : Int) : (pCmp T n e a).1 = true → TyP true 15 e (cs ++ (pCmp T n e a).2.2) := by
  unfold pCmp
  by_cases z : sgn T n (sk T n a) = 61 ∨ sgn T n (sk T n a) = 60 ∨ sgn T n (sk T n a) = 62
  · rw [if_pos z]
    intro e1 s r hs
    have h2 := sumE_ty T n e _ e1
    show tyC ((cs ++ ((sumE T n e (sk T n a + 1)).2.2 ++ [(cmO (sgn T n (sk T n a)), 0)])) ++ r) s = _
    rw [List.append_assoc, List.append_assoc, hc s _ (by omega), h2 (false :: s) _ (by simp; omega)]
    exact ty_cmp (cmO_r _) (by omega)
  · rw [if_neg z]; exact fun e => by cases e
theorem pUnit_ty {T : Int → Int} {n : Int} {un cn : Int → Rr} {e : Nat} (hu : e ≠ 0 → TyF true 15 (e - 1) un) (hc : e ≠ 0 → TyF true 13 (e - 1) cn) : TyF true 15 e (pUnit T n un cn e) := by
  intro a
  unfold pUnit
  by_cases z : sgn T n (sk T n a) = 33
  · rw [if_pos z]
    by_cases ez : e = 0
    · rw [if_pos ez]; exact fun e => by cases e
    · rw [if_neg ez]
      intro e1 s r hs
      show tyC (((un (sk T n a + 1)).2.2 ++ [(9, 0)]) ++ r) s = _
      rw [List.append_assoc, hu ez _ e1 s _ (by omega)]
      exact ty_not (by omega)
  · rw [if_neg z]
    by_cases z2 : sgn T n (sk T n a) = 40
    · rw [if_pos z2]
      by_cases ez : e = 0
      · rw [if_pos ez]; exact fun e => by cases e
      · rw [if_neg ez]
        exact thn_ty (fun e1 s r hs => hc ez _ e1 s r (by omega))
    · rw [if_neg z2]
      by_cases z3 : (sumE T n e (sk T n a)).1 = false
      · rw [if_pos z3]
        intro e1
        rw [z3] at e1
        cases e1
      · rw [if_neg z3]
        exact pCmp_ty (sumE_ty T n e _ (by cases e : (sumE T n e (sk T n a)).1 <;> simp_all)) _
theorem pTru_ty {T : Int → Int} {n : Int} {u : Int → Rr} {e : Nat} (hu : TyF true 15 e u) : TyF true 14 e (pTru T n u) := fun a => lpP_ty (by decide) hu ⟨Or.inr ⟨rfl, by decide⟩, Or.inr ⟨rfl, by decide⟩⟩ 240 _ (fun e1 => (hu a e1).lo (by decide))
theorem pCnd_ty {T : Int → Int} {n : Int} {u : Int → Rr} {e : Nat} (hu : TyF true 15 e u) : TyF true 13 e (pCnd T n u) := fun a => lpP_ty (by decide) (pTru_ty hu) ⟨Or.inr ⟨rfl, by decide⟩, Or.inr ⟨rfl, by decide⟩⟩ 240 _ (fun e1 => (pTru_ty hu a e1).lo (by decide))
theorem untE_ty (T : Int → Int) (n : Int) : ∀ e : Nat, TyF true 15 e (untE T n e)
  | 0 => pUnit_ty (fun h => absurd rfl h) (fun h => absurd rfl h)
  | e + 1 => pUnit_ty (fun _ => untE_ty T n e) (fun _ => pCnd_ty (untE_ty T n e))
theorem TyP.top {b : Bool} {C : Nat} {cs : Cd} (h : TyP b C 6 cs) (hC : 12 ≤ C) : tyC cs [] = some [b] := by
  have := h [] [] (by simp; omega)
  rw [List.append_nil] at this
  exact this
/-! clauses -/
abbrev Rc : Type := Bool × Int × Cd × Cd
def pTail (T : Int → Int) (n : Int) (q : Rr) : Rc := if q.1 = false then (false, q.2.1, [], []) else if sgn T n (sk T n q.2.1) = 63 then ((sumE T n 6 (sk T n q.2.1 + 1)).1, (sumE T n 6 (sk T n q.2.1 + 1)).2.1, q.2.2, (sumE T n 6 (sk T n q.2.1 + 1)).2.2) else (false, sk T n q.2.1, [], [])
def pCnB (T : Int → Int) (n : Int) (s : Rr) : Rr := lpP T n (pTru T n (untE T n 6)) 124 124 11 11 240 (lpP T n (untE T n 6) 38 38 10 10 240 ((pCmp T n 6 s.2.1).1, (pCmp T n 6 s.2.1).2.1, s.2.2 ++ (pCmp T n 6 s.2.1).2.2))
/-- behind the two signs of its beginning -/
def pCl2 (T : Int → Int) (n b : Int) : Rc :=
  if sgn T n b = 33 ∨ sgn T n b = 40 then pTail T n (pCnd T n (untE T n 6) b)
  else if (sumE T n 6 b).1 = false then (false, (sumE T n 6 b).2.1, [], [])
  else if sgn T n (sk T n (sumE T n 6 b).2.1) = 61 ∨ sgn T n (sk T n (sumE T n 6 b).2.1) = 60 ∨ sgn T n (sk T n (sumE T n 6 b).2.1) = 62 then pTail T n (pCnB T n (sumE T n 6 b))
  else (true, sk T n (sumE T n 6 b).2.1, [], (sumE T n 6 b).2.2)
def pCls (T : Int → Int) (n a : Int) : Rc :=
  if sgn T n (sk T n a) = 121 then (if sgn T n (sk T n (sk T n a + 1)) = 58 then pCl2 T n (sk T n (sk T n (sk T n a + 1) + 1)) else (false, sk T n (sk T n a + 1), [], [])) else (false, sk T n a, [], [])
def lwP (T : Int → Int) (n : Int) : Nat → Int → Lw → Bool × Int × Lw
  | 0, a, L => (false, a, L)
  | k + 1, a, L => if (pCls T n a).1 = false then (false, (pCls T n a).2.1, L) else if sgn T n (sk T n (pCls T n a).2.1) = 0 then (true, sk T n (pCls T n a).2.1, L ++ [(pCls T n a).2.2]) else if sgn T n (sk T n (pCls T n a).2.1) = 59 then lwP T n k (sk T n (pCls T n a).2.1 + 1) (L ++ [(pCls T n a).2.2]) else (false, sk T n (pCls T n a).2.1, L ++ [(pCls T n a).2.2])
def CR2 (n b : Int) (c : Rc) : Prop := b ≤ c.2.1 ∧ c.2.1 ≤ n ∧ (c.1 = true → b + c.2.2.1.length + c.2.2.2.length ≤ c.2.1 ∧ b < c.2.1 ∧ clsOk c.2.2)
theorem pTail_r {T : Int → Int} {n b : Int} {q : Rr} (h0 : 0 ≤ b) (hq : PR n b q) (ht : q.1 = true → TyP true 13 6 q.2.2) : CR2 n b (pTail T n q) := by
  obtain ⟨h1, h2, h3⟩ := hq
  have hk := sk_ge T n q.2.1
  have hk2 := sk_le (T := T) h2
  unfold pTail
  by_cases z : q.1 = false
  · rw [if_pos z]; exact ⟨h1, h2, fun e => by cases e⟩
  · rw [if_neg z]
    have hqt : q.1 = true := by cases e : q.1 <;> simp_all
    have h3 := h3 hqt
    by_cases z2 : sgn T n (sk T n q.2.1) = 63
    · have hz := sgn_nz (T := T) (n := n) (a := sk T n q.2.1) (by omega)
      have hs := sumE_g T n 6 (sk T n q.2.1 + 1) (by omega) (by omega)
      rw [if_pos z2]
      refine ⟨by show b ≤ (sumE T n 6 (sk T n q.2.1 + 1)).2.1; omega, hs.2.1, fun e => ?_⟩
      have h4 := hs.2.2 e
      exact ⟨by show b + (q.2.2.length : Int) + ((sumE T n 6 (sk T n q.2.1 + 1)).2.2.length : Int) ≤ (sumE T n 6 (sk T n q.2.1 + 1)).2.1; omega, by show b < (sumE T n 6 (sk T n q.2.1 + 1)).2.1; omega, Or.inr ((ht hqt).top (by decide)), (sumE_ty T n 6 _ e).top (by decide)⟩
    · rw [if_neg z2]
      exact ⟨by show b ≤ sk T n q.2.1; omega, hk2, fun e => by cases e⟩
theorem pCnB_r {T : Int → Int} {n b : Int} {s : Rr} (h0 : 0 ≤ b) (hs : PR n b s) (h1 : s.1 = true) (ht : TyP false 16 6 s.2.2) : PR n b (pCnB T n s) ∧ ((pCnB T n s).1 = true → TyP true 13 6 (pCnB T n s).2.2) := by
  have hb := hs.2.2 h1
  have hp := pCmp_g (T := T) (n := n) (e := 6) s.2.1 (by omega) hs.2.1
  have hr : PR n b ((pCmp T n 6 s.2.1).1, (pCmp T n 6 s.2.1).2.1, s.2.2 ++ (pCmp T n 6 s.2.1).2.2) := by
    refine ⟨by show b ≤ (pCmp T n 6 s.2.1).2.1; omega, hp.2.1, fun e => ?_⟩
    have := hp.2.2 e
    refine ⟨?_, by show b < (pCmp T n 6 s.2.1).2.1; omega⟩
    show b + ((s.2.2 ++ (pCmp T n 6 s.2.1).2.2).length : Int) ≤ (pCmp T n 6 s.2.1).2.1
    rw [List.length_append]
    omega
  have hty : (pCmp T n 6 s.2.1).1 = true → TyP true 15 6 (s.2.2 ++ (pCmp T n 6 s.2.1).2.2) := pCmp_ty ht _
  unfold pCnB
  obtain ⟨r1, hr1⟩ : ∃ r1 : Rr, r1 = ((pCmp T n 6 s.2.1).1, (pCmp T n 6 s.2.1).2.1, s.2.2 ++ (pCmp T n 6 s.2.1).2.2) := ⟨_, rfl⟩
  have hty' : r1.1 = true → TyP true 15 6 r1.2.2 := by rw [hr1]; exact hty
  rw [← hr1] at hr ⊢
  obtain ⟨k, hk⟩ : ∃ k : Nat, k = 240 := ⟨_, rfl⟩
  rw [← hk]
  have g1 := lpP_r (T := T) (s1 := 38) (s2 := 38) (o1 := 10) (o2 := 10) h0 (untE_g T n 6) (by decide) k r1 hr
  have g2 := lpP_ty (T := T) (n := n) (s1 := 38) (s2 := 38) (o1 := 10) (o2 := 10) (C := 14) (by decide) (untE_ty T n 6) ⟨Or.inr ⟨rfl, by decide⟩, Or.inr ⟨rfl, by decide⟩⟩ k r1 (fun e2 => (hty' e2).lo (by decide))
  generalize lpP T n (untE T n 6) 38 38 10 10 k r1 = r2 at g1 g2
  exact ⟨lpP_r h0 (pTru_g (untE_g T n 6)) (by decide) k r2 g1, lpP_ty (by decide) (pTru_ty (untE_ty T n 6)) ⟨Or.inr ⟨rfl, by decide⟩, Or.inr ⟨rfl, by decide⟩⟩ k r2 (fun e1 => (g2 e1).lo (by decide))⟩
theorem pCl2_r {T : Int → Int} {n b : Int} (h0 : 0 ≤ b) (h1 : b ≤ n) : CR2 n b (pCl2 T n b) := by
  unfold pCl2
  by_cases z : sgn T n b = 33 ∨ sgn T n b = 40
  · rw [if_pos z]
    exact pTail_r h0 (pCnd_g (untE_g T n 6) b h0 h1) (pCnd_ty (untE_ty T n 6) b)
  · rw [if_neg z]
    have hs := sumE_g T n 6 b h0 h1
    by_cases z2 : (sumE T n 6 b).1 = false
    · rw [if_pos z2]; exact ⟨hs.1, hs.2.1, fun e => by cases e⟩
    · rw [if_neg z2]
      have hst : (sumE T n 6 b).1 = true := by cases e : (sumE T n 6 b).1 <;> simp_all
      have h3 := hs.2.2 hst
      have hk := sk_ge T n (sumE T n 6 b).2.1
      have hk2 := sk_le (T := T) hs.2.1
      by_cases z3 : sgn T n (sk T n (sumE T n 6 b).2.1) = 61 ∨ sgn T n (sk T n (sumE T n 6 b).2.1) = 60 ∨ sgn T n (sk T n (sumE T n 6 b).2.1) = 62
      · rw [if_pos z3]
        have := pCnB_r (T := T) h0 hs hst (sumE_ty T n 6 b hst)
        exact pTail_r h0 this.1 this.2
      · rw [if_neg z3]
        exact ⟨by show b ≤ sk T n (sumE T n 6 b).2.1; omega, hk2, fun _ => ⟨by show b + ((0 : Nat) : Int) + ((sumE T n 6 b).2.2.length : Int) ≤ sk T n (sumE T n 6 b).2.1; omega, by show b < sk T n (sumE T n 6 b).2.1; omega, Or.inl rfl, (sumE_ty T n 6 b hst).top (by decide)⟩⟩
def CR1 (n a : Int) (c : Rc) : Prop := a ≤ c.2.1 ∧ c.2.1 ≤ n ∧ (c.1 = true → a + 2 + c.2.2.1.length + c.2.2.2.length ≤ c.2.1 ∧ a + 3 ≤ c.2.1 ∧ clsOk c.2.2)
theorem pCls_r {T : Int → Int} {n a : Int} (h0 : 0 ≤ a) (h1 : a ≤ n) : CR1 n a (pCls T n a) := by
  have hk := sk_ge T n a
  have hk2 := sk_le (T := T) h1
  unfold pCls
  by_cases z : sgn T n (sk T n a) = 121
  · have hz := sgn_nz (T := T) (n := n) (a := sk T n a) (by omega)
    have hl := sk_ge T n (sk T n a + 1)
    have hl2 := sk_le (T := T) (n := n) (a := sk T n a + 1) (by omega)
    rw [if_pos z]
    by_cases z2 : sgn T n (sk T n (sk T n a + 1)) = 58
    · have hz2 := sgn_nz (T := T) (n := n) (a := sk T n (sk T n a + 1)) (by omega)
      have hm := sk_ge T n (sk T n (sk T n a + 1) + 1)
      have hm2 := sk_le (T := T) (n := n) (a := sk T n (sk T n a + 1) + 1) (by omega)
      rw [if_pos z2]
      obtain ⟨c1, c2, c3⟩ := pCl2_r (T := T) (n := n) (b := sk T n (sk T n (sk T n a + 1) + 1)) (by omega) hm2
      exact ⟨by omega, c2, fun e => by have := c3 e; exact ⟨by omega, by omega, this.2.2⟩⟩
    · rw [if_neg z2]
      exact ⟨by show a ≤ sk T n (sk T n a + 1); omega, hl2, fun e => by cases e⟩
  · rw [if_neg z]
    exact ⟨hk, hk2, fun e => by cases e⟩
/-- laws read so far, and what they cost -/
def LwR (L : Lw) (a : Int) : Prop := (∀ c ∈ L, clsOk c) ∧ 3 * (L.length : Int) ≤ a ∧ (((L.map fun c => c.1.length + c.2.length + 2).sum : Nat) : Int) ≤ a
theorem LwR.add {L : Lw} {a b : Int} {c : Cd × Cd} (h : LwR L a) (hc : clsOk c) (h1 : a + 2 + c.1.length + c.2.length ≤ b) (h2 : a + 3 ≤ b) : LwR (L ++ [c]) b := by
  obtain ⟨a1, a2, a3⟩ := h
  refine ⟨fun x hx => ?_, by rw [List.length_append, List.length_singleton]; omega, ?_⟩
  · rcases List.mem_append.mp hx with hx | hx
    · exact a1 x hx
    · rw [List.mem_singleton.mp hx]; exact hc
  · rw [List.map_append, List.sum_append]
    show (((L.map fun c => c.1.length + c.2.length + 2).sum + (c.1.length + c.2.length + 2 + 0) : Nat) : Int) ≤ b
    omega
theorem LwR.le {L : Lw} {a b : Int} (h : LwR L a) (hab : a ≤ b) : LwR L b := ⟨h.1, by have := h.2.1; omega, by have := h.2.2; omega⟩
theorem lwP_r {T : Int → Int} {n : Int} : ∀ (k : Nat) (a : Int) (L : Lw), 0 ≤ a → a ≤ n → LwR L a → (a ≤ (lwP T n k a L).2.1 ∧ (lwP T n k a L).2.1 ≤ n) ∧ ((lwP T n k a L).1 = true → LwR (lwP T n k a L).2.2 (lwP T n k a L).2.1)
  | 0, a, L, h0, h1, hL => ⟨⟨Int.le_refl _, h1⟩, fun _ => hL⟩
  | k + 1, a, L, h0, h1, hL => by
    obtain ⟨c1, c2, c3⟩ := pCls_r (T := T) h0 h1
    have hk := sk_ge T n (pCls T n a).2.1
    have hk2 := sk_le (T := T) c2
    unfold lwP
    by_cases z : (pCls T n a).1 = false
    · rw [if_pos z]; exact ⟨⟨c1, c2⟩, fun e => by cases e⟩
    · rw [if_neg z]
      have c3 := c3 (by cases e : (pCls T n a).1 <;> simp_all)
      have hL' : LwR (L ++ [(pCls T n a).2.2]) (pCls T n a).2.1 := hL.add c3.2.2 c3.1 c3.2.1
      by_cases z2 : sgn T n (sk T n (pCls T n a).2.1) = 0
      · rw [if_pos z2]
        exact ⟨⟨by show a ≤ sk T n (pCls T n a).2.1; omega, hk2⟩, fun _ => hL'.le hk⟩
      · rw [if_neg z2]
        by_cases z3 : sgn T n (sk T n (pCls T n a).2.1) = 59
        · have hz := sgn_nz (T := T) (n := n) (a := sk T n (pCls T n a).2.1) (by omega)
          rw [if_pos z3]
          have := lwP_r (T := T) (n := n) k (sk T n (pCls T n a).2.1 + 1) (L ++ [(pCls T n a).2.2]) (by omega) (by omega) (hL'.le (by omega))
          exact ⟨⟨by omega, this.1.2⟩, this.2⟩
        · rw [if_neg z3]
          exact ⟨⟨by show a ≤ sk T n (pCls T n a).2.1; omega, hk2⟩, fun e => by cases e⟩
theorem LwR.ok {L : Lw} {a : Int} (h : LwR L a) (ha : a ≤ 240) : LwOk L := by
  obtain ⟨a1, a2, a3⟩ := h
  refine ⟨a1, by omega, ?_⟩
  have : ∀ L : Lw, (L.map fun c => c.1.length + c.2.length).sum ≤ (L.map fun c => c.1.length + c.2.length + 2).sum := by
    intro L
    induction L with
    | nil => exact Nat.le_refl _
    | cons c L ih => simp only [List.map_cons, List.sum_cons]; omega
  have := this L
  omega
