/-! ===== the reference reads a law: clauses, the whole ===== -/
/-- what a clause changes -/
def FrC (tx l1 c0 : Int) (m m' : Mm) : Prop := Fr [83, 85, 86, 87, 88, 89, 90, 91] m m' ∧ (∀ k, k ≠ 3 → k ≠ 4 → k ≠ 5 → m' 83 k = m 83 k) ∧ (∀ i, i ≠ tx → m' 87 i = m 87 i ∧ m' 88 i = m 88 i) ∧ (∀ j, (j < 520 * tx + c0 ∨ 520 * tx + 520 ≤ j) → m' 85 j = m 85 j ∧ m' 86 j = m 86 j) ∧ (∀ j, j ≠ l1 → m' 89 j = m 89 j ∧ m' 90 j = m 90 j ∧ m' 91 j = m 91 j)
theorem FrC.tr {tx l1 c0 : Int} {m m1 m2 : Mm} (h1 : FrC tx l1 c0 m m1) (h2 : FrC tx l1 c0 m1 m2) : FrC tx l1 c0 m m2 := by
  obtain ⟨a1, a2, a3, a4, a5⟩ := h1
  obtain ⟨b1, b2, b3, b4, b5⟩ := h2
  exact ⟨a1.tr b1, fun k x y z => (b2 k x y z).trans (a2 k x y z), fun i hi => ⟨(b3 i hi).1.trans (a3 i hi).1, (b3 i hi).2.trans (a3 i hi).2⟩, fun j hj => ⟨(b4 j hj).1.trans (a4 j hj).1, (b4 j hj).2.trans (a4 j hj).2⟩, fun j hj => ⟨(b5 j hj).1.trans (a5 j hj).1, (b5 j hj).2.1.trans (a5 j hj).2.1, (b5 j hj).2.2.trans (a5 j hj).2.2⟩⟩
theorem FrC.rf (tx l1 c0 : Int) (m : Mm) : FrC tx l1 c0 m m := ⟨Fr.rf _ _, fun _ _ _ _ => rfl, fun _ _ => ⟨rfl, rfl⟩, fun _ _ => ⟨rfl, rfl⟩, fun _ _ => ⟨rfl, rfl, rfl⟩⟩
theorem FrR.c {tx l1 c0 : Int} {m m' : Mm} (h : FrR tx m m') (hc : c0 ≤ m 87 tx) : FrC tx l1 c0 m m' := by
  obtain ⟨a1, a2, a3, a4, a5⟩ := h
  refine ⟨a1.wd (by decide), a2, fun i hi => ⟨a3 i hi, by rw [a1 88 (by decide)]⟩, fun j hj => a4 j (by omega), fun j _ => ⟨by rw [a1 89 (by decide)], by rw [a1 90 (by decide)], by rw [a1 91 (by decide)]⟩⟩
theorem FrC.u3 {tx l1 c0 : Int} {m m1 : Mm} (h : FrC tx l1 c0 m m1) {k v : Int} (hk : k = 3 ∨ k = 4 ∨ k = 5) : FrC tx l1 c0 m (up m1 83 k v) := by
  obtain ⟨a1, a2, a3, a4, a5⟩ := h
  exact ⟨a1.up (by simp), fun j x y z => by rw [up_ne (Or.inr (by omega))]; exact a2 j x y z, fun i hi => by rw [up_off (by decide), up_off (by decide)]; exact a3 i hi, fun j hj => by rw [up_off (by decide), up_off (by decide)]; exact a4 j hj, fun j hj => by rw [up_off (by decide), up_off (by decide), up_off (by decide)]; exact a5 j hj⟩
theorem FrC.ul {tx l1 c0 : Int} {m m1 : Mm} (h : FrC tx l1 c0 m m1) {a : Nat} {v : Int} (hk : a = 89 ∨ a = 90 ∨ a = 91) : FrC tx l1 c0 m (up m1 a l1 v) := by
  obtain ⟨a1, a2, a3, a4, a5⟩ := h
  refine ⟨a1.up (by simp; omega), fun j x y z => by rw [up_ne (Or.inl (by omega))]; exact a2 j x y z, fun i hi => by rw [up_off (by omega), up_off (by omega)]; exact a3 i hi, fun j hj => by rw [up_off (by omega), up_off (by omega)]; exact a4 j hj, fun j hj => by rw [up_ne (Or.inr hj), up_ne (Or.inr hj), up_ne (Or.inr hj)]; exact a5 j hj⟩
theorem FrC.u8 {tx l1 c0 : Int} {m m1 : Mm} (h : FrC tx l1 c0 m m1) {v : Int} : FrC tx l1 c0 m (up m1 88 tx v) := by
  obtain ⟨a1, a2, a3, a4, a5⟩ := h
  exact ⟨a1.up (by simp), fun j x y z => by rw [up_ne (Or.inl (by decide))]; exact a2 j x y z, fun i hi => by rw [up_off (by decide), up_ne (Or.inr hi)]; exact a3 i hi, fun j hj => by rw [up_off (by decide), up_off (by decide)]; exact a4 j hj, fun j hj => by rw [up_off (by decide), up_off (by decide), up_off (by decide)]; exact a5 j hj⟩
theorem TpM.c {T : Int → Int} {n tx l1 c0 : Int} {m m' : Mm} (h : TpM T n m) (hf : FrC tx l1 c0 m m') : TpM T n m' := h.fr (hf.2.1 2 (by decide) (by decide) (by decide)) (hf.1 84 (by decide))
/-- a clause read -/
def mRc (tx : Int) (m m' : Mm) (c : Rc) : Prop := FrC tx (140 * tx + m 88 tx) (m 87 tx) m m' ∧ (0 ≤ m' 83 3 ∧ m' 83 3 ≤ 500) ∧ (c.1 = true → m' 83 4 = -1 ∧ m' 83 3 = c.2.1 ∧ m' 83 5 = m 83 5 ∧ stM tx m m' (c.2.2.1 ++ c.2.2.2) ∧ m' 88 tx = m 88 tx + 1 ∧ m' 89 (140 * tx + m 88 tx) = m 87 tx ∧ m' 90 (140 * tx + m 88 tx) = m 87 tx + c.2.2.1.length ∧ m' 91 (140 * tx + m 88 tx) = m 87 tx + c.2.2.1.length + c.2.2.2.length) ∧ (c.1 = false → m' 83 4 = c.2.1)
section MLaw4
variable {X : Cx} {d : Nat} {m : Mm} {Q : Int → Mm → Prop} {Q0 : Mm → Prop} {T : Int → Int} {n tx : Int}
/-- behind a condition: ? and a sum. m0: how the clause began; m1: where its codes begin -/
theorem M_tail_c (hB : Bsh X.2.2.1) (hT : TOk T n) (htx : 0 ≤ tx ∧ tx < 5) {D : Nat} {l1 : Int} {m0 m1 : Mm} {q : Rr} (hsum : MJ T n tx 6 (M_sumText X (D + 1)) (sumE T n 6)) (hl : l1 = 140 * tx + m0 88 tx) (h88 : 0 ≤ m0 88 tx ∧ m0 88 tx < 140) (hm0 : TpM T n m0) (h014 : m0 83 14 = tx) (h05 : m0 83 5 = 0) (h087 : 0 ≤ m0 87 tx ∧ m0 87 tx ≤ m0 83 3) (hf01 : FrC tx l1 (m0 87 tx) m0 m1) (e87 : m1 87 tx = m0 87 tx) (e5 : m1 83 5 = m0 83 5) (e3 : m0 83 3 ≤ m1 83 3) (e88 : m1 88 tx = m0 88 tx) (e89 : m1 89 l1 = m0 87 tx) (hq : mRes n tx 6 m1 m q) (hqr : 0 ≤ q.2.1 ∧ q.2.1 ≤ n) (h : ∀ m', mRc tx m0 m' (pTail T n q) → Q0 m') : M_clause_184 X (D + 2) l1 1 m Q0 := by
  have hn := hT.1
  obtain ⟨q1, q2, q3, q4, q5⟩ := hq
  have qm := q1.2.2.2.2
  have f1 : FrC tx l1 (m0 87 tx) m0 m := hf01.tr (q1.c (by omega))
  have k14 : m 83 14 = tx := by rw [f1.2.1 14 (by decide) (by decide) (by decide)]; exact h014
  have k89 : m 89 l1 = m0 87 tx := by rw [q1.1 89 (by decide)]; exact e89
  have k88 : m 88 tx = m0 88 tx := by rw [q1.1 88 (by decide)]; exact e88
  unfold pTail at h
  cases hb : q.1 with
  | false =>
    rw [if_pos hb] at h
    have q5 := q5 hb
    refine M_clause_184w hB ⟨by omega, by decide, fun e => absurd e (by decide), fun _ => ⟨by omega, fun _ => M_clause_251w hB ⟨by rw [up_off (by decide)]; omega, by omega, ?_⟩, fun zz => by omega⟩⟩
    have e14 : (up m 90 l1 (m 89 l1)) 83 14 = tx := by rw [up_off (by decide)]; exact k14
    rw [e14]
    refine h _ ⟨?_, ?_, (fun e => by cases e), fun _ => ?_⟩
    · rw [← hl]
      exact ((f1.ul (Or.inr (Or.inl rfl))).ul (Or.inr (Or.inr rfl))).u8
    · rw [up_off (by decide), up_off (by decide), up_off (by decide)]; omega
    · rw [up_off (by decide), up_off (by decide), up_off (by decide)]; exact q5
  | true =>
    rw [if_neg (by rw [hb]; decide)] at h
    obtain ⟨c1, c2, c3, c4⟩ := q4 hb
    have hk := sk_ge T n q.2.1
    have hk2 := sk_le (T := T) hqr.2
    have hsM := sgM_c hT (a := sk T n q.2.1) (by omega)
    have c87 := c4.1
    obtain ⟨ma, hma⟩ : ∃ ma, ma = up m 90 l1 (m 89 l1) := ⟨_, rfl⟩
    have fa : FrC tx l1 (m0 87 tx) m0 ma := by rw [hma]; exact f1.ul (Or.inr (Or.inl rfl))
    have a83 : ma 83 = m 83 := by rw [hma]; exact up_off (by decide)
    have a85 : ma 85 = m 85 := by rw [hma]; exact up_off (by decide)
    have a86 : ma 86 = m 86 := by rw [hma]; exact up_off (by decide)
    have a87 : ma 87 = m 87 := by rw [hma]; exact up_off (by decide)
    have a88 : ma 88 = m 88 := by rw [hma]; exact up_off (by decide)
    have a89 : ma 89 = m 89 := by rw [hma]; exact up_off (by decide)
    have sa : stM tx m1 ma q.2.2 := c4.en a85 a86 a87
    refine M_clause_184w hB ⟨by omega, by decide, fun e => absurd e (by decide), fun _ => ⟨by omega, fun zz => absurd c1 zz, fun _ => ?_⟩⟩
    rw [← hma]
    refine M_look_c hB hT (hm0.c fa) (by rw [a83]; omega) ?_
    rw [a83, c2]
    refine ⟨by omega, fun z => ⟨by rw [up_ne (Or.inr (by decide)), a83]; omega, ?_⟩, fun z => M_bad_c hB (by rw [up_ne (Or.inr (by decide)), a83]; exact c1) ?_⟩
    · have hz := sgn_nz (T := T) (n := n) (a := sk T n q.2.1) (by omega)
      rw [if_pos (by omega)] at h
      have hs := sumE_g T n 6 (sk T n q.2.1 + 1) (by omega) (by omega)
      have e14 : (up ma 83 3 (sk T n q.2.1)) 83 14 = tx := by rw [up_ne (Or.inr (by decide)), a83]; exact k14
      rw [adv83, e14, up_off (by decide)]
      obtain ⟨mb, hmb⟩ : ∃ mb, mb = up (up ma 83 3 (sk T n q.2.1 + 1)) 90 l1 (ma 87 tx) := ⟨_, rfl⟩
      rw [← hmb]
      have fb : FrC tx l1 (m0 87 tx) m0 mb := by rw [hmb]; exact (fa.u3 (Or.inl rfl)).ul (Or.inr (Or.inl rfl))
      have b3 : mb 83 3 = sk T n q.2.1 + 1 := by rw [hmb, up_off (by decide)]; exact up_same _ _ _ _
      have bk : ∀ k, k ≠ 3 → mb 83 k = m 83 k := fun k hk => by rw [hmb, up_off (by decide), up_ne (Or.inr hk), a83]
      have b87 : mb 87 = m 87 := by rw [hmb, up_off (by decide), up_off (by decide), a87]
      have b90 : mb 90 l1 = m 87 tx := by rw [hmb, up_same, a87]
      refine hsum.at (a := sk T n q.2.1 + 1) b3 (hm0.c fb) (by rw [bk 14 (by decide)]; exact k14) (by rw [bk 4 (by decide)]; exact c1) (by rw [bk 5 (by decide), c3, e5, h05]; decide) (by omega) (by rw [b87]; omega) (fun m2 g => ?_)
      generalize sumE T n 6 (sk T n q.2.1 + 1) = s at h hs g
      obtain ⟨g1, g2, g3, g4, g5⟩ := g
      have gm := g1.2.2.2.2
      rw [b87] at gm g2
      rw [b3] at g2
      have f2 : FrC tx l1 (m0 87 tx) m0 m2 := fb.tr (g1.c (by rw [b87]; omega))
      have k14' : m2 83 14 = tx := by rw [f2.2.1 14 (by decide) (by decide) (by decide)]; exact h014
      refine M_clause_251w hB ⟨by omega, by omega, ?_⟩
      rw [k14']
      have f3 : FrC tx l1 (m0 87 tx) m0 (up (up m2 91 l1 (m2 87 tx)) 88 tx (m2 88 tx + 1)) := (f2.ul (Or.inr (Or.inr rfl))).u8
      refine h _ ⟨by rw [← hl]; exact f3, by rw [up_off (by decide), up_off (by decide)]; omega, fun e1 => ?_, fun e1 => by rw [up_off (by decide), up_off (by decide)]; exact g5 e1⟩
      obtain ⟨x1, x2, x3, x4⟩ := g4 e1
      have x87 := x4.1
      rw [b87] at x87
      have m288 : m2 88 tx = m0 88 tx := by rw [g1.1 88 (by decide), hmb, up_off (by decide), up_off (by decide), a88, k88]
      have sall : stM tx m0 m2 (q.2.2 ++ s.2.2) := by
        have s1 : stM tx m0 mb q.2.2 := (sa.base e87).en (by rw [hmb, up_off (by decide), up_off (by decide)]) (by rw [hmb, up_off (by decide), up_off (by decide)]) (by rw [hmb, up_off (by decide), up_off (by decide)])
        exact s1.tr x4 g1
      rw [up_off (by decide), up_off (by decide), ← hl]
      refine ⟨x1, x2, by rw [x3, bk 5 (by decide), c3, e5], ?_, by rw [up_same, m288], ?_, ?_, ?_⟩
      · exact sall.en (by rw [up_off (by decide), up_off (by decide)]) (by rw [up_off (by decide), up_off (by decide)]) (by rw [up_off (by decide), up_off (by decide)])
      · rw [up_off (by decide), up_off (by decide), g1.1 89 (by decide), hmb, up_off (by decide), up_off (by decide), a89, k89]
      · rw [up_off (by decide), up_off (by decide), g1.1 90 (by decide), b90, c87, e87]
      · rw [up_off (by decide), up_same]
        show m2 87 tx = m0 87 tx + (q.2.2.length : Int) + (s.2.2.length : Int)
        omega
    · rw [if_neg (by omega)] at h
      rw [up_same]
      refine h _ ⟨?_, ?_, (fun e => by cases e), fun _ => ?_⟩
      · rw [← hl]
        exact (fa.u3 (Or.inl rfl)).u3 (Or.inr (Or.inl rfl))
      · rw [up_ne (Or.inr (by decide)), up_same]; omega
      · rw [up_same]
theorem M_clause_c (hB : Bsh X.2.2.1) (hT : TOk T n) (htx : 0 ≤ tx ∧ tx < 5) (hm : TpM T n m) (h14 : m 83 14 = tx) (h4 : m 83 4 = -1) (h5 : m 83 5 = 0) (ha : 0 ≤ m 83 3 ∧ m 83 3 ≤ n) (hs : 0 ≤ m 87 tx ∧ m 87 tx ≤ m 83 3) (h88 : 0 ≤ m 88 tx ∧ m 88 tx < 140) (h : ∀ m', mRc tx m m' (pCls T n (m 83 3)) → Q0 m') : M_clause X (d + 40) m Q0 := by
  have hn := hT.1
  have hk := sk_ge T n (m 83 3)
  have hk2 := sk_le (T := T) ha.2
  have hsM := sgM_c hT (a := sk T n (m 83 3)) (by omega)
  unfold pCls at h
  obtain ⟨l1, hl⟩ : ∃ l1, l1 = 140 * tx + m 88 tx := ⟨_, rfl⟩
  have hun : ∀ D', 32 ≤ D' → MJ T n tx 6 (M_unit X D') (untE T n 6) := fun D' hD => M_untE hB hT htx 6 D' (by decide) (by omega)
  have gu := untE_g T n 6
  have hsum : ∀ D', 23 ≤ D' → MJ T n tx 6 (M_sumText X D') (sumE T n 6) := fun D' hD => M_sumE hB hT htx 6 D' (by decide) (by omega)
  have hcn : MJ T n tx 6 (M_condition X (d + 39)) (pCnd T n (untE T n 6)) := M_cnd_c (D := d + 35) hB hT htx (by decide) (fun D2 h2 => hun D2 (by omega)) gu
  generalize hb : sk T n (m 83 3) = b at h hk hk2 hsM
  refine M_clausew hB ⟨by omega, by omega, fun zz => absurd h4 zz, fun _ => M_look_c hB hT hm (by omega) ?_⟩
  rw [h14, ← hl, hb]
  have f1 : FrC tx l1 (m 87 tx) m (up m 83 3 b) := (FrC.rf _ _ _ m).u3 (Or.inl rfl)
  have e4 : (up m 83 3 b) 83 4 = -1 := by rw [up_ne (Or.inr (by decide))]; exact h4
  refine ⟨by omega, fun z => M_clause_40w hB ⟨by omega, fun zz => absurd e4 zz, fun _ => ?_⟩, fun z => M_bad_c hB e4 (M_clause_40w hB ⟨by rw [up_same, up_same]; omega, fun _ => M_clause_71w hB ⟨?_, fun zz => ?_, fun _ => ?_⟩, fun zz => ?_⟩)⟩
  · have hz := sgn_nz (T := T) (n := n) (a := b) (by omega)
    rw [if_pos (by omega)] at h
    rw [adv83]
    have hl2 := sk_ge T n (b + 1)
    have hl3 := sk_le (T := T) (n := n) (a := b + 1) (by omega)
    have hsM2 := sgM_c hT (a := sk T n (b + 1)) (by omega)
    have e3 : (up m 83 3 (b + 1)) 83 3 = b + 1 := up_same _ _ _ _
    refine M_look_c hB hT hm.at3 (by rw [e3]; omega) ?_
    rw [e3, up_up]
    generalize sk T n (b + 1) = b1 at h hl2 hl3 hsM2 ⊢
    have e4' : (up m 83 3 b1) 83 4 = -1 := by rw [up_ne (Or.inr (by decide))]; exact h4
    have f1' : FrC tx l1 (m 87 tx) m (up m 83 3 b1) := (FrC.rf _ _ _ m).u3 (Or.inl rfl)
    refine ⟨by omega, fun z2 => M_clause_71w hB ⟨by omega, fun _ => ⟨by rw [up_ne (Or.inr (by decide))]; omega, by omega, ?_⟩, fun zz => absurd e4' zz⟩, fun z2 => M_bad_c hB e4' (M_clause_71w hB ⟨by rw [up_same, up_same]; omega, fun zz => ?_, fun _ => ?_⟩)⟩
    · have hz2 := sgn_nz (T := T) (n := n) (a := b1) (by omega)
      rw [if_pos (by omega)] at h
      have e14 : (up m 83 3 b1) 83 14 = tx := by rw [up_ne (Or.inr (by decide))]; exact h14
      rw [adv83, e14, up_off (by decide)]
      have hp := sk_ge T n (b1 + 1)
      have hp2 := sk_le (T := T) (n := n) (a := b1 + 1) (by omega)
      have hsM3 := sgM_c hT (a := sk T n (b1 + 1)) (by omega)
      obtain ⟨mc, hmc⟩ : ∃ mc, mc = up (up m 83 3 (b1 + 1)) 89 l1 (m 87 tx) := ⟨_, rfl⟩
      rw [← hmc]
      have fc : FrC tx l1 (m 87 tx) m mc := by rw [hmc]; exact ((FrC.rf _ _ _ m).u3 (Or.inl rfl)).ul (Or.inl rfl)
      have c3 : mc 83 3 = b1 + 1 := by rw [hmc, up_off (by decide)]; exact up_same _ _ _ _
      refine M_look_c hB hT (hm.c fc) (by rw [c3]; omega) ?_
      rw [c3]
      generalize hb2 : sk T n (b1 + 1) = b2 at h hp hp2 hsM3
      -- where its codes begin
      obtain ⟨m1, hm1⟩ : ∃ m1, m1 = up mc 83 3 b2 := ⟨_, rfl⟩
      rw [← hm1]
      have f01 : FrC tx l1 (m 87 tx) m m1 := by rw [hm1]; exact fc.u3 (Or.inl rfl)
      have d3 : m1 83 3 = b2 := by rw [hm1]; exact up_same _ _ _ _
      have dk : ∀ k, k ≠ 3 → m1 83 k = m 83 k := fun k hk => by rw [hm1, up_ne (Or.inr hk), hmc, up_off (by decide), up_ne (Or.inr hk)]
      have d87 : m1 87 = m 87 := by rw [hm1, up_off (by decide), hmc, up_off (by decide), up_off (by decide)]
      have d88 : m1 88 = m 88 := by rw [hm1, up_off (by decide), hmc, up_off (by decide), up_off (by decide)]
      have d89 : m1 89 l1 = m 87 tx := by rw [hm1, up_off (by decide), hmc, up_same]
      have hmm1 : TpM T n m1 := hm.c f01
      have hlook : up m1 83 3 (sk T n (m1 83 3)) = m1 := by
        rw [d3]
        have : sk T n b2 = b2 := by rw [← hb2, sk_sk]
        rw [this, ← d3, up_id]
      have hsg : sgM T n (sk T n (m1 83 3)) = sgM T n b2 := by
        rw [d3]
        have : sk T n b2 = b2 := by rw [← hb2, sk_sk]
        rw [this]
      unfold pCl2 at h
      have tail : ∀ (m2 : Mm) (q : Rr), mRes n tx 6 m1 m2 q → (0 ≤ q.2.1 ∧ q.2.1 ≤ n) → (∀ m', mRc tx m m' (pTail T n q) → Q0 m') → M_clause_184 X (d + 40) l1 1 m2 Q0 := fun m2 q g gr hh => M_tail_c (D := d + 38) hB hT htx (hsum (d + 39) (by omega)) hl h88 hm h14 h5 hs f01 (by rw [d87]) (dk 5 (by decide)) (by rw [d3]; omega) (by rw [d88]) d89 g gr hh
      have cond : (sgn T n b2 = 33 ∨ sgn T n b2 = 40) → M_clause_123 X (d + 40) l1 m1 Q0 := by
        intro zc
        rw [if_pos zc] at h
        have gq := pCnd_g (T := T) gu b2 (by omega) hp2
        refine M_clause_123w hB (hcn.at (a := b2) d3 hmm1 (by rw [dk 14 (by decide)]; exact h14) (by rw [dk 4 (by decide)]; exact h4) (by rw [dk 5 (by decide), h5]; decide) (by omega) (by rw [d87]; omega) (fun m2 g => tail m2 _ g (by omega) h))
      refine ⟨by omega, fun zc => cond (Or.inl (by omega)), fun zc => M_look_c hB hT hmm1 (by rw [d3]; omega) ?_⟩
      rw [hlook, hsg]
      refine ⟨by omega, fun zc2 => ?_, fun zc2 => cond (Or.inr (by omega))⟩
      rw [if_neg (by omega)] at h
      have hq := sumE_g T n 6 b2 (by omega) hp2
      refine (hsum (d + 39) (by omega)).at (a := b2) d3 hmm1 (by rw [dk 14 (by decide)]; exact h14) (by rw [dk 4 (by decide)]; exact h4) (by rw [dk 5 (by decide), h5]; decide) (by omega) (by rw [d87]; omega) (fun m2 g => ?_)
      generalize sumE T n 6 b2 = s at h hq g
      have g0 := g
      obtain ⟨g1, g2, g3, g4, g5⟩ := g
      have gm := g1.2.2.2.2
      have f2 : FrC tx l1 (m 87 tx) m m2 := f01.tr (g1.c (by rw [d87]; omega))
      have k14 : m2 83 14 = tx := by rw [f2.2.1 14 (by decide) (by decide) (by decide)]; exact h14
      have k88 : m2 88 tx = m 88 tx := by rw [g1.1 88 (by decide), d88]
      have k89 : m2 89 l1 = m 87 tx := by rw [g1.1 89 (by decide)]; exact d89
      rw [d87] at g2 gm
      rw [d3] at g2
      cases hsb : s.1 with
      | false =>
        rw [if_pos hsb] at h
        have g5 := g5 hsb
        refine ⟨by omega, fun _ => M_clause_166w hB (M_clause_184w hB ⟨by omega, by decide, fun _ => M_clause_251w hB ⟨by rw [up_off (by decide)]; omega, by omega, ?_⟩, fun e => absurd rfl e⟩), fun zz => by omega⟩
        have e14' : (up m2 90 l1 (m2 89 l1)) 83 14 = tx := by rw [up_off (by decide)]; exact k14
        rw [e14']
        refine h _ ⟨?_, ?_, (fun e => by cases e), fun _ => ?_⟩
        · rw [← hl]
          exact ((f2.ul (Or.inr (Or.inl rfl))).ul (Or.inr (Or.inr rfl))).u8
        · rw [up_off (by decide), up_off (by decide), up_off (by decide)]; omega
        · rw [up_off (by decide), up_off (by decide), up_off (by decide)]; exact g5
      | true =>
        rw [if_neg (by rw [hsb]; decide)] at h
        obtain ⟨x1, x2, x3, x4⟩ := g4 hsb
        have hq2 := hq.2.2 hsb
        have hv := sk_ge T n s.2.1
        have hv2 := sk_le (T := T) hq.2.1
        have hsM4 := sgM_c hT (a := sk T n s.2.1) (by omega)
        have x87 := x4.1
        rw [d87] at x87
        refine ⟨by omega, fun zz => absurd x1 zz, fun _ => M_look_c hB hT (hm.c f2) (by omega) ?_⟩
        rw [x2]
        obtain ⟨m3, hm3⟩ : ∃ m3, m3 = up m2 83 3 (sk T n s.2.1) := ⟨_, rfl⟩
        rw [← hm3]
        have f3 : FrC tx l1 (m 87 tx) m m3 := by rw [hm3]; exact f2.u3 (Or.inl rfl)
        have y3 : m3 83 3 = sk T n s.2.1 := by rw [hm3]; exact up_same _ _ _ _
        have yk : ∀ k, k ≠ 3 → m3 83 k = m2 83 k := fun k hk => by rw [hm3, up_ne (Or.inr hk)]
        have y87 : m3 87 = m2 87 := by rw [hm3]; exact up_off (by decide)
        have gs : mRes n tx 6 m1 m3 (true, sk T n s.2.1, s.2.2) := by
          refine ⟨by rw [hm3]; exact g1.u3 (Or.inl rfl), by rw [y3, y87, d3, d87]; omega, by rw [y3]; omega, fun _ => ⟨by rw [yk 4 (by decide)]; exact x1, y3, by rw [yk 5 (by decide)]; exact x3, x4.en (by rw [hm3]; exact up_off (by decide)) (by rw [hm3]; exact up_off (by decide)) y87⟩, fun e => by cases e⟩
        refine M_isSign_c hB (by omega) (fun z3 => ⟨by decide, fun e => absurd e (by decide), fun _ => ?_⟩) (fun z3 => ⟨by decide, fun _ => ?_, fun e => absurd rfl e⟩)
        · rw [if_pos (by omega)] at h
          have gc := pCmp_g (T := T) (n := n) (e := 6) (sk T n s.2.1) (by omega) hv2
          refine (M_cmp_c (D := d + 37) hB hT htx (by decide) (hsum (d + 38) (by omega))).at (a := sk T n s.2.1) y3 (hm.c f3) (by rw [yk 14 (by decide)]; exact k14) (by rw [yk 4 (by decide)]; exact x1) (by rw [yk 5 (by decide), x3, dk 5 (by decide), h5]; decide) (by omega) (by rw [y87]; omega) (fun m4 gg => ?_)
          have gg2 := gs.tr rfl gg
          rw [pCmp_sk] at gc gg2
          have hr : PR n (m1 83 3) ((pCmp T n 6 s.2.1).1, (pCmp T n 6 s.2.1).2.1, s.2.2 ++ (pCmp T n 6 s.2.1).2.2) := by
            rw [d3]
            refine ⟨by show b2 ≤ (pCmp T n 6 s.2.1).2.1; omega, gc.2.1, fun e => ?_⟩
            have := gc.2.2 e
            refine ⟨?_, by show b2 < (pCmp T n 6 s.2.1).2.1; omega⟩
            show b2 + ((s.2.2 ++ (pCmp T n 6 s.2.1).2.2).length : Int) ≤ (pCmp T n 6 s.2.1).2.1
            rw [List.length_append]
            omega
          have h14' : m1 83 14 = tx := by rw [dk 14 (by decide)]; exact h14
          have h5' : m1 83 5 = 6 - ((6 : Nat) : Int) := by rw [dk 5 (by decide), h5]; decide
          unfold pCnB at h
          have ht : MJ T n tx 6 (fun m Q => M_unit X (d + 38) m (fun m1 => M_goOnAnd X (d + 38) m1 Q)) (pTru T n (untE T n 6)) := M_tru_c (D := d + 36) hB hT htx (by decide) (hun (d + 38) (by omega)) gu (hun (d + 37) (by omega)) gu
          refine M_and_c (D := d + 37) hB hT htx (by decide) (hun (d + 38) (by omega)) gu hmm1 h14' h5' (by rw [d3]; omega) (by rw [d3, d87]; omega) gg2 hr (fun m5 w5 => ?_)
          have hr5 := lpP_r (T := T) (s1 := 38) (s2 := 38) (o1 := 10) (o2 := 10) (by rw [d3]; omega) gu (by decide) 240 _ hr
          generalize lpP T n (untE T n 6) 38 38 10 10 240 ((pCmp T n 6 s.2.1).1, (pCmp T n 6 s.2.1).2.1, s.2.2 ++ (pCmp T n 6 s.2.1).2.2) = r5 at h w5 hr5
          refine M_or_c (D := d + 37) hB hT htx (by decide) ht (pTru_g gu) hmm1 h14' h5' (by rw [d3]; omega) (by rw [d3, d87]; omega) w5 hr5 (fun m6 w6 => ?_)
          have hr6 := lpP_r (T := T) (s1 := 124) (s2 := 124) (o1 := 11) (o2 := 11) (by rw [d3]; omega) (pTru_g (T := T) gu) (by decide) 240 _ hr5
          generalize lpP T n (pTru T n (untE T n 6)) 124 124 11 11 240 r5 = r6 at h w6 hr6
          rw [d3] at hr6
          exact tail m6 r6 w6 ⟨by have := hr6.1; omega, hr6.2.1⟩ h
        · rw [if_neg (by omega)] at h
          refine M_clause_166w hB (M_clause_184w hB ⟨by omega, by decide, fun _ => M_clause_251w hB ⟨by rw [up_off (by decide), yk 14 (by decide)]; omega, by omega, ?_⟩, fun e => absurd rfl e⟩)
          have e14' : (up m3 90 l1 (m3 89 l1)) 83 14 = tx := by rw [up_off (by decide), yk 14 (by decide)]; exact k14
          have y88 : m3 88 tx = m 88 tx := by rw [hm3, up_off (by decide)]; exact k88
          have y89 : m3 89 l1 = m 87 tx := by rw [hm3, up_off (by decide)]; exact k89
          rw [e14']
          refine h _ ⟨by rw [← hl]; exact ((f3.ul (Or.inr (Or.inl rfl))).ul (Or.inr (Or.inr rfl))).u8, ?_, fun _ => ?_, fun e => by cases e⟩
          · rw [up_off (by decide), up_off (by decide), up_off (by decide)]; omega
          · rw [up_off (by decide), up_off (by decide), up_off (by decide), ← hl]
            refine ⟨by rw [yk 4 (by decide)]; exact x1, y3, by rw [yk 5 (by decide), x3, dk 5 (by decide)], ?_, ?_, ?_, ?_, ?_⟩
            · have s0 : stM tx m m3 s.2.2 := gs.2.2.2.1 rfl |>.2.2.2.base (by rw [d87])
              exact s0.en (by rw [up_off (by decide), up_off (by decide), up_off (by decide)]) (by rw [up_off (by decide), up_off (by decide), up_off (by decide)]) (by rw [up_off (by decide), up_off (by decide), up_off (by decide)])
            · rw [up_same, up_off (by decide), y88]
            · rw [up_off (by decide), up_off (by decide), up_off (by decide)]; exact y89
            · rw [up_off (by decide), up_off (by decide), up_same, y89]
              show m 87 tx = m 87 tx + ((0 : Nat) : Int)
              omega
            · rw [up_off (by decide), up_same, up_off (by decide), y87, x87]
              show m 87 tx + (s.2.2.length : Int) = m 87 tx + ((0 : Nat) : Int) + (s.2.2.length : Int)
              omega
    · rw [up_same, up_same] at zz; omega
    · rw [if_neg (by omega)] at h
      rw [up_same]
      refine h _ ⟨?_, ?_, (fun e => by cases e), fun _ => ?_⟩
      · rw [← hl]
        exact (f1'.u3 (Or.inr (Or.inl rfl))).u3 (Or.inl rfl)
      · rw [up_same, up_ne (Or.inr (by decide)), up_same]; omega
      · rw [up_ne (Or.inr (by decide)), up_same]
  · rw [up_ne (Or.inr (by decide)), up_same, up_same]; omega
  · rw [up_ne (Or.inr (by decide)), up_same, up_same] at zz; omega
  · rw [if_neg (by omega)] at h
    rw [up_same]
    refine h _ ⟨?_, ?_, (fun e => by cases e), fun _ => ?_⟩
    · rw [← hl]
      exact ((f1.u3 (Or.inr (Or.inl rfl))).u3 (Or.inl rfl)).u3 (Or.inl rfl)
    · rw [up_same, up_same, up_ne (Or.inr (by decide)), up_same]; omega
    · rw [up_ne (Or.inr (by decide)), up_ne (Or.inr (by decide)), up_same]
  · rw [up_same, up_same] at zz; omega
end MLaw4
