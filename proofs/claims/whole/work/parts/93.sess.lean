/-! ===== sessions ===== -/
def drS (s : Int) : Int := s * 6364136223846793005 + 1442695040888963407
def drV (s x : Int) : Int := jRm (jUr (drS s) 33) x
theorem jUr33 (y : Int) : 0 ≤ jUr y 33 ∧ jUr y 33 < 2147483648 := by
  have e : ((Int32.ofInt 33).toInt64.toUInt64 &&& Int64.toUInt64 63) = 33 := by decide
  unfold jUr
  rw [e]
  show 0 ≤ ((Int64.ofInt y).toUInt64 >>> 33).toBitVec.toInt ∧ ((Int64.ofInt y).toUInt64 >>> 33).toBitVec.toInt < 2147483648
  have h : ((Int64.ofInt y).toUInt64 >>> 33).toBitVec.toNat < 2147483648 := by
    have h1 : ((Int64.ofInt y).toUInt64 >>> 33).toNat = (Int64.ofInt y).toUInt64.toNat >>> 33 := by
      rw [UInt64.toNat_shiftRight]
      rfl
    have h2 := (Int64.ofInt y).toUInt64.toNat_lt
    have h3 : ((Int64.ofInt y).toUInt64 >>> 33).toBitVec.toNat = ((Int64.ofInt y).toUInt64 >>> 33).toNat := rfl
    rw [h3, h1, Nat.shiftRight_eq_div_pow]
    omega
  rw [BitVec.toInt_eq_toNat_of_lt (by omega)]
  omega
theorem jRm_e {a x : Int} (ha : 0 ≤ a ∧ a < 2147483648) (hx : 1 ≤ x ∧ x ≤ 1000) : jRm a x = a % x := by
  have ea : (Int64.ofInt a).toInt = a := Int64.toInt_ofInt_of_le (by omega) (by omega)
  have ex : (Int64.ofInt x).toInt = x := Int64.toInt_ofInt_of_le (by omega) (by omega)
  have hd : (Int64.ofInt a / Int64.ofInt x).toInt = a / x := by
    rw [Int64.toInt_div, ea, ex]
    have h1 : Int.tdiv a x = a / x := Int.tdiv_eq_ediv_of_nonneg ha.1
    rw [h1]
    have h2 : 0 ≤ a / x := Int.ediv_nonneg ha.1 (by omega)
    have h3 : a / x ≤ a := Int.ediv_le_self _ ha.1
    rw [Int.bmod_eq_of_le (by omega) (by omega)]
  have e1 : Int64.ofInt a / Int64.ofInt x = Int64.ofInt (a / x) := by rw [← hd, Int64.ofInt_toInt]
  unfold jRm
  rw [e1, ← Int64.ofInt_mul, ← Int64.ofInt_sub]
  have h4 := Int.emod_add_mul_ediv a x
  have h5 : a - a / x * x = a % x := by rw [Int.mul_comm (a / x) x]; omega
  rw [h5]
  have h6 := Int.emod_nonneg a (show x ≠ 0 by omega)
  have h7 := Int.emod_lt_of_pos a (show 0 < x by omega)
  exact Int64.toInt_ofInt_of_le (by omega) (by omega)
theorem drV_r (s : Int) {x : Int} (hx : 1 ≤ x ∧ x ≤ 1000) : 0 ≤ drV s x ∧ drV s x < x := by
  have h := jUr33 (drS s)
  unfold drV
  rw [jRm_e h hx]
  exact ⟨Int.emod_nonneg _ (by omega), Int.emod_lt_of_pos _ (by omega)⟩
theorem ne64 {x : Int} (hx : 1 ≤ x ∧ x ≤ 1000) : ¬ Int64.ofInt x = 0 := by
  intro e
  have : (Int64.ofInt x).toInt = (0 : Int64).toInt := by rw [e]
  rw [Int64.toInt_ofInt_of_le (by omega) (by omega)] at this
  have h0 : (0 : Int64).toInt = 0 := rfl
  omega
/-- with the draws -/
def FcD (m m' : Mm) : Prop := m' 18 0 = m 18 0 ∧ m' 18 1 = m 18 1 ∧ m' 21 1 = m 21 1 ∧ (∀ k, k ≠ 15 → m' 0 k = m 0 k) ∧ ∀ a, ((1 ≤ a ∧ a < 17) ∨ a = 24 ∨ a = 25 ∨ a = 73 ∨ a = 77 ∨ a = 78 ∨ a = 79 ∨ 82 ≤ a) → m' a = m a
theorem FcS.d {m m' : Mm} (h : FcS m m') : FcD m m' := ⟨h.1, h.2.1, h.2.2.1, fun k _ => by rw [h.2.2.2 0 (by omega)], fun a ha => h.2.2.2 a (by omega)⟩
theorem FcD.rf (m : Mm) : FcD m m := ⟨rfl, rfl, rfl, fun _ _ => rfl, fun _ _ => rfl⟩
theorem FcD.tr {m m1 m2 : Mm} (h : FcD m m1) (h2 : FcD m1 m2) : FcD m m2 := ⟨h2.1.trans h.1, h2.2.1.trans h.2.1, h2.2.2.1.trans h.2.2.1, fun k hk => (h2.2.2.2.1 k hk).trans (h.2.2.2.1 k hk), fun a ha => (h2.2.2.2.2 a ha).trans (h.2.2.2.2 a ha)⟩
theorem FcD.up0 {m : Mm} {v : Int} : FcD m (up m 0 15 v) := ⟨by rw [up_ne (Or.inl (by decide))], by rw [up_ne (Or.inl (by decide))], by rw [up_ne (Or.inl (by decide))], fun k hk => up_ne (Or.inr hk), fun a ha => up_off (by omega)⟩
def FmD (m m' : Mm) : Prop := (∀ k, ¬ scF k → k ≠ 36 → k ≠ 37 → m' 83 k = m 83 k) ∧ Fr [83, 92, 93, 101, 103, 104, 105, 106, 110, 111] m m'
theorem FmS.d {m m' : Mm} (h : FmS m m') : FmD m m' := ⟨fun k a b _ => h.1 k a b, h.2⟩
theorem FmD.rf (m : Mm) : FmD m m := ⟨fun _ _ _ _ => rfl, Fr.rf _ _⟩
theorem FmD.tr {m m1 m2 : Mm} (h : FmD m m1) (h2 : FmD m1 m2) : FmD m m2 := ⟨fun k a b c => (h2.1 k a b c).trans (h.1 k a b c), h.2.tr h2.2⟩
theorem Cv.fcd {X : Cx} {m m' : Mm} {c : Nat} {K : Kn} {pf : Pf} (h : Cv X m c K pf) (hf : FcD m m') : Cv X m' c K pf := by
  obtain ⟨a1, a2, a3, a4, a5, a6⟩ := h
  have ne : ∀ a, 1 ≤ a → a < 17 → m' a = m a := fun a h1 h2 => hf.2.2.2.2 a (Or.inl ⟨h1, h2⟩)
  exact ⟨a1, hf.1.trans a2, a3.fr (ne _ (by omega) (by omega)) (ne _ (by omega) (by omega)) (ne _ (by omega) (by omega)), a4.ls ⟨hf.2.1, fun a ha => hf.2.2.2.2 a (by omega)⟩, a5, a6⟩
theorem Mv.fmd {X : Cx} {m m' : Mm} {K : Kn} {pf : Pf} (h : Mv X m K pf) (hf : FmD m m') : Mv X m' K pf := by
  obtain ⟨a1, a2, a3, a4⟩ := h
  have e : kM m' = kM m := by
    unfold kM
    rw [hf.2 98 (by decide), hf.2 99 (by decide), hf.1 27 (by unfold scF; omega) (by decide) (by decide), hf.1 28 (by unfold scF; omega) (by decide) (by decide), hf.1 29 (by unfold scF; omega) (by decide) (by decide)]
  exact ⟨e.trans a1, a2.ls ⟨hf.1 32 (by unfold scF; omega) (by decide) (by decide), fun a x y => hf.2 a (by simp; omega)⟩, a3, a4⟩
/-! the picture of a session -/
def dlQ : Nat → Int → (Int → Int) → Int → (Int → Int) × Int
  | 0, _, q, s => (q, s)
  | f + 1, k, q, s => dlQ f (k + 1) (lnBy q k (drV s 3)) (drS s)
def psS (K : Kn) (wt : Int → Int) (pf : Pf) : Nat → (Int → Int) → Int → Int
  | 0, q => q
  | f + 1, q => psS K wt pf f (passA K wt pf q)
def dgQ (K : Kn) (dg : Int) (q : Int → Int) (s : Int) : (Int → Int) × Int := if drV s 10 < dg then (chQ q (drV (drS s) (kNm K)) (drV (drS (drS s)) (kNm K)), drS (drS (drS s))) else (q, drS s)
def sw0 (K : Kn) (q : Int → Int) : Int → Int := if q 21 = kR K 3 then wkQ K q else q
def ssS (K : Kn) (wt : Int → Int) (pf : Pf) (dg : Int) (q : Int → Int) (s : Int) : (Int → Int) × Int :=
  (psS K wt pf (kR K 3 - (dgQ K dg (dlQ (kNm K).toNat 0 (sw0 K q) s).1 (dlQ (kNm K).toNat 0 (sw0 K q) s).2).1 21).toNat (dgQ K dg (dlQ (kNm K).toNat 0 (sw0 K q) s).1 (dlQ (kNm K).toNat 0 (sw0 K q) s).2).1, (dgQ K dg (dlQ (kNm K).toNat 0 (sw0 K q) s).1 (dlQ (kNm K).toNat 0 (sw0 K q) s).2).2)
theorem chQ_id {q : Int → Int} {x : Int} : chQ q x x = q := by
  funext j
  unfold chQ
  split
  next e => rw [e]
  next => rfl
theorem chQ_ok {K : Kn} {q : Int → Int} (h : Qok K q) (hn : kNm K ≤ 6) {x y : Int} (hx : 0 ≤ x ∧ x < kNm K) (hy : 0 ≤ y ∧ y < kNm K) : Qok K (chQ q x y) := by
  have s1 := h.1 x hx.1 hx.2
  have s2 := h.1 y hy.1 hy.2
  have ex : x + 12 = 12 + x := by omega
  have ey : y + 12 = 12 + y := by omega
  refine h.seat hn (fun k h1 h2 => ?_) (fun j hj => by unfold chQ; rw [if_neg (by omega), if_neg (by omega)])
  have s3 := h.1 k h1 h2
  unfold chQ
  rw [ex, ey]
  split
  · exact s1.2.2
  · split
    · exact s2.2.2
    · exact s3.2.2
theorem lnBy_ok {K : Kn} {q : Int → Int} (h : Qok K q) (hn : kNm K ≤ 6) {k v : Int} (hk : 0 ≤ k ∧ k < kNm K) (hv : 0 ≤ v ∧ v ≤ 2) : Qok K (lnBy q k v) := by
  refine h.lean hn (fun j h1 h2 => ?_) (fun j hj => by unfold lnBy; rw [if_neg (by omega)])
  have := (h.1 j h1 h2).1
  unfold lnBy
  split
  · exact hv
  · exact this
theorem dlQ_ok {K : Kn} (hn : kNm K ≤ 6) : ∀ (f : Nat) (k : Int) (q : Int → Int) (s : Int), Qok K q → 0 ≤ k → k + f ≤ kNm K → Qok K (dlQ f k q s).1 ∧ ∀ j, 18 ≤ j → (dlQ f k q s).1 j = q j := by
  intro f
  induction f with
  | zero => intro k q s h _ _; exact ⟨h, fun _ _ => rfl⟩
  | succ f ih =>
    intro k q s h h0 h1
    have hr := drV_r s (x := 3) (by decide)
    obtain ⟨c1, c2⟩ := ih (k + 1) (lnBy q k (drV s 3)) (drS s) (lnBy_ok h hn (by omega) (by omega)) (by omega) (by omega)
    refine ⟨c1, fun j hj => ?_⟩
    show (dlQ f (k + 1) (lnBy q k (drV s 3)) (drS s)).1 j = _
    rw [c2 j hj]
    unfold lnBy
    rw [if_neg (by omega)]
theorem psS_ok {K : Kn} {wt : Int → Int} {pf : Pf} (hK : Kok K) : ∀ (f : Nat) (q : Int → Int), Qok K q → (0 ≤ q 24 ∧ q 24 ≤ 60) → q 21 + f ≤ kR K 3 → Qok K (psS K wt pf f q) ∧ psS K wt pf f q 23 = q 23 ∧ (0 ≤ psS K wt pf f q 24 ∧ psS K wt pf f q 24 ≤ 60) := by
  intro f
  induction f with
  | zero => intro q h h24 _; exact ⟨h, rfl, h24⟩
  | succ f ih =>
    intro q h h24 hr
    have hp := pass_ok (wt := wt) (pf := pf) hK h (by omega) h24
    obtain ⟨c1, c2, c3⟩ := ih (passA K wt pf q) hp.1 hp.2.2.2 (by rw [hp.2.1]; omega)
    exact ⟨c1, c2.trans hp.2.2.1, c3⟩
theorem sw0_ok {K : Kn} {q : Int → Int} (hK : Kok K) (h : Qok K q) : Qok K (sw0 K q) ∧ (sw0 K q 23 = q 23 ∨ sw0 K q 23 = q 23 + 1) ∧ (∀ j, 24 ≤ j → sw0 K q j = q j) ∧ sw0 K q 21 < kR K 3 := by
  have hr := h.2.2.2.2.1
  have hk := hK.2.2.2.2.2.1
  unfold sw0
  by_cases z : q 21 = kR K 3
  · rw [if_pos z]
    exact ⟨h.wk hK, Or.inr rfl, fun j hj => wk_hi hj, by show (0 : Int) < kR K 3; omega⟩
  · rw [if_neg z]
    exact ⟨h, Or.inl rfl, fun _ _ => rfl, by omega⟩
section Sess
variable {X : Cx} {d : Nat} {m m' : Mm} {A : Ab} {t : Int} {Q : Int → Mm → Prop} {Q0 : Mm → Prop} {c : Nat} {K : Kn} {B : Int → Int} {pf : Pf} {AL : List (Int → Int)}
theorem V_draw_c (hB : Bsh X.2.2.1) {x : Int} (hx : 1 ≤ x ∧ x ≤ 1000) (h : Q (drV (m 0 15) x) (up m 0 15 (drS (m 0 15)))) : V_draw X d x m Q := V_draww hB ⟨by omega, fun _ => ⟨ne64 hx, h⟩, fun z => by omega⟩
theorem M_draw_c (hB : Bsh X.2.2.1) {x : Int} (hx : 1 ≤ x ∧ x ≤ 1000) (h : Q (drV (m 83 37) x) (up m 83 37 (drS (m 83 37)))) : M_draw X d x m Q := M_draww hB ⟨by omega, ne64 hx, h⟩
theorem V_hold_129_c (hB : Bsh X.2.2.1) (hBk : Bok K B) : ∀ (f : Nat) (m : Mm) (l1 : Int) (o : Option Int) (q : Int → Int) (r : Int), Cv X m c K pf → m 0 6 = (c : Int) → Qok K q → CR m K B q AL r → l1 = q 21 → (kR K 3 - q 21).toNat = f → (f : Int) ≤ r → (∀ m', CR m' K B (psS K (wtB B) pf f q) AL (r - f) → FcS m m' → m' 17 10 = m 17 10 + f → Q0 m') → V_holdSession_129 X (d + 9) l1 o m Q0 := by
  intro f
  induction f with
  | zero =>
    intro m l1 o q r hv h6 hQ hC hl hf hr h
    have e3 : m (c + 1) 3 = kR K 3 := hv.2.2.1.2.2.2.1 3 (by omega) (by omega)
    have hrow := hQ.2.2.2.2.1
    have hk := hv.2.2.2.2.1.2.2.2.2.2.1
    refine V_holdSession_129w hB ⟨c, hv.1, h6, K_lastRow_c hB hv.1 ⟨by omega, by omega, fun _ => h m ?_ (FcS.rf m) (by omega), fun z => by omega⟩⟩
    have e : r - ((0 : Nat) : Int) = r := by omega
    rw [e]
    exact hC
  | succ f ih =>
    intro m l1 o q r hv h6 hQ hC hl hf hr h
    have e3 : m (c + 1) 3 = kR K 3 := hv.2.2.1.2.2.2.1 3 (by omega) (by omega)
    have hrow := hQ.2.2.2.2.1
    have hk := hv.2.2.2.2.1.2.2.2.2.2.1
    have hC' : CR m K B q AL (r - 1 + 1) := by rw [show r - 1 + 1 = r by omega]; exact hC
    refine V_holdSession_129w hB ⟨c, hv.1, h6, K_lastRow_c hB hv.1 ⟨by omega, by omega, fun z => by omega, fun _ => V_goARow_c hB (r := r - 1) hv hBk hQ (by omega) hC' (by omega) (fun m2 k1 k2 k3 => ?_)⟩⟩
    have hp := pass_ok (wt := wtB B) (pf := pf) hv.2.2.2.2.1 hQ (by omega) hC.2.1.1.1
    refine ih m2 (l1 + 1) _ _ (r - 1) (hv.fcs k2) (by rw [k2.2.2.2 0 (by omega)]; exact h6) hp.1 k1 (by rw [hp.2.1]; omega) (by rw [hp.2.1]; omega) (by omega) (fun m' g1 g2 g3 => h m' ?_ (k2.tr g2) (by omega))
    have e : r - 1 - (f : Int) = r - ((f + 1 : Nat) : Int) := by omega
    rw [e] at g1
    exact g1
theorem V_hold_30_c (hB : Bsh X.2.2.1) (hBk : Bok K B) {r : Int} (hr : 20 ≤ r) {dg : Int} (hdg : 0 ≤ dg ∧ dg ≤ 9) : ∀ (f : Nat) (m : Mm) (l1 : Int) (q : Int → Int), Cv X m c K pf → m 0 6 = (c : Int) → m 0 14 = dg → Qok K q → CR m K B q AL r → 0 ≤ l1 → kNm K - l1 = f → (∀ m' q' s' r', 0 ≤ r' → q' = (dgQ K dg (dlQ f l1 q (m 0 15)).1 (dlQ f l1 q (m 0 15)).2).1 → s' = (dgQ K dg (dlQ f l1 q (m 0 15)).1 (dlQ f l1 q (m 0 15)).2).2 → CR m' K B (psS K (wtB B) pf (kR K 3 - q' 21).toNat q') AL r' → m' 0 15 = s' → FcD m m' → m' 17 10 ≤ m 17 10 + 20 → Q0 m') → V_holdSession_30 X (d + 9) l1 m Q0 := by
  intro f
  induction f with
  | zero =>
    intro m l1 q hv h6 h14 hQ hC hl hf h
    have hK := hv.2.2.2.2.1
    have hn := hK.1
    have h4 : m c 4 = kNm K := hv.2.2.1.2.1
    have hk3 := hK.2.2.2.2.2.1
    have d10 := drV_r (m 0 15) (x := 10) (by decide)
    have o0 : ∀ m2 : Mm, FcD m m2 → m2 0 6 = (c : Int) ∧ m2 0 14 = dg ∧ m2 c 4 = kNm K := fun m2 g => ⟨(g.2.2.2.1 6 (by decide)).trans h6, (g.2.2.2.1 14 (by decide)).trans h14, by rw [g.2.2.2.2 c (by have := hv.1; omega)]; exact h4⟩
    have crU : ∀ (m2 : Mm) (q2 : Int → Int) (v : Int), CR m2 K B q2 AL r → CR (up m2 0 15 v) K B q2 AL r := fun m2 q2 v g => g.cg (up_off (by decide)) (by rw [up_ne (Or.inl (by decide))]) (by rw [up_ne (Or.inl (by decide))]) (up_off (by decide)) (up_off (by decide)) (fun a h1 h2 => up_off (by omega))
    have fin : ∀ (m2 : Mm) (q2 : Int → Int) (s2 : Int) (o : Option Int), q2 = (dgQ K dg q (m 0 15)).1 → s2 = (dgQ K dg q (m 0 15)).2 → Qok K q2 → CR m2 K B q2 AL r → m2 0 15 = s2 → FcD m m2 → m2 17 10 = m 17 10 → V_holdSession_129 X (d + 9) (m2 17 7) o m2 Q0 := by
      intro m2 q2 s2 o e1 e2 hQ2 hC2 e15 hf2 e10
      have hro := hQ2.2.2.2.2.1
      refine V_hold_129_c hB hBk (kR K 3 - q2 21).toNat m2 _ o q2 r (hv.fcd hf2) (o0 m2 hf2).1 hQ2 hC2 hC2.1.2.2.2.2.1 rfl (by omega) (fun m' g1 g2 g3 => h m' q2 s2 _ (by omega) e1 e2 g1 (by rw [g2.2.2.2 0 (by omega)]; exact e15) (hf2.tr g2.d) (by omega))
    refine V_holdSession_30w hB ⟨c, hv.1, h6, by omega, by omega, fun _ => V_draw_c hB (by decide) ?_, fun z => by omega⟩
    have u1 : FcD m (up m 0 15 (drS (m 0 15))) := FcD.up0
    have e1 := o0 _ u1
    rw [e1.2.1]
    refine ⟨by omega, by omega, fun z => fin _ q (drS (m 0 15)) _ ?_ ?_ hQ (crU m q _ hC) (up_same _ _ _ _) u1 (by rw [up_ne (Or.inl (by decide))]), fun z => ⟨e1.1, ?_⟩⟩
    · unfold dgQ; rw [if_neg (by omega)]
    · unfold dgQ; rw [if_neg (by omega)]
    · rw [e1.2.2]
      refine V_draw_c hB (by omega) ?_
      rw [up_same]
      have u2 : FcD m (up (up m 0 15 (drS (m 0 15))) 0 15 (drS (drS (m 0 15)))) := u1.tr FcD.up0
      have e2 := o0 _ u2
      rw [e2.2.2]
      refine ⟨e2.1, V_draw_c hB (by omega) ?_⟩
      rw [up_same]
      have u3 : FcD m (up (up (up m 0 15 (drS (m 0 15))) 0 15 (drS (drS (m 0 15)))) 0 15 (drS (drS (drS (m 0 15))))) := u2.tr FcD.up0
      have ra := drV_r (drS (m 0 15)) (x := kNm K) (by omega)
      have rb := drV_r (drS (drS (m 0 15))) (x := kNm K) (by omega)
      have eD : dgQ K dg q (m 0 15) = (chQ q (drV (drS (m 0 15)) (kNm K)) (drV (drS (drS (m 0 15))) (kNm K)), drS (drS (drS (m 0 15)))) := by unfold dgQ; rw [if_pos z]
      have c3 := crU _ q (drS (drS (drS (m 0 15)))) (crU _ q (drS (drS (m 0 15))) (crU m q (drS (m 0 15)) hC))
      obtain ⟨m3, hm3⟩ : ∃ m3, m3 = up (up (up m 0 15 (drS (m 0 15))) 0 15 (drS (drS (m 0 15)))) 0 15 (drS (drS (drS (m 0 15)))) := ⟨_, rfl⟩
      rw [← hm3] at u3 c3 ⊢
      have e15 : m3 0 15 = drS (drS (drS (m 0 15))) := by rw [hm3]; exact up_same _ _ _ _
      have e10 : m3 17 10 = m 17 10 := by rw [hm3, up_ne (Or.inl (by decide)), up_ne (Or.inl (by decide)), up_ne (Or.inl (by decide))]
      refine ⟨by omega, by omega, fun z2 => fin m3 q _ _ ?_ ?_ hQ c3 e15 u3 e10, fun z2 => T_swapSeats_c hB (by decide) (fun m4 k1 k2 k3 => ?_)⟩
      · rw [eD, z2]
        exact chQ_id.symm
      · rw [eD]
      · have g1 := c3
        obtain ⟨x, hx⟩ : ∃ x, x = drV (drS (m 0 15)) (kNm K) := ⟨_, rfl⟩
        obtain ⟨y, hy⟩ : ∃ y, y = drV (drS (drS (m 0 15))) (kNm K) := ⟨_, rfl⟩
        rw [← hx] at ra k1 z2 eD
        rw [← hy] at rb k1 z2 eD
        have s1 := hQ.1 x ra.1 ra.2
        have s2 := hQ.1 y rb.1 rb.2
        rw [(g1.1.1 x ra.1 ra.2).2.2.2, (g1.1.1 y rb.1 rb.2).2.2.2] at k1
        have ex : x + 12 = 12 + x := by omega
        have ey : y + 12 = 12 + y := by omega
        have key : ∀ k, 0 ≤ k → k < kNm K → nib (m4 17 3) k = chQ q x y (12 + k) := by
          intro k h1 h2
          rw [k1, nibI (by omega) (by omega) (by omega), nibI (by omega) (by omega) (by omega), (g1.1.1 k h1 h2).2.2.2]
          unfold chQ
          rw [ex, ey]
          by_cases z6 : k = y
          · rw [if_pos z6, if_pos (by omega)]
          · by_cases z7 : k = x
            · rw [if_neg z6, if_pos z7, if_neg (c := 12 + k = 12 + y) (by omega), if_pos (by omega)]
            · rw [if_neg z6, if_neg z7, if_neg (c := 12 + k = 12 + y) (by omega), if_neg (by omega)]
        have c4 : CR m4 K B (chQ q x y) AL r := g1.q (g1.1.seat hn.2 key (fun j h1 _ _ => k2 j h1) (fun j hj => by unfold chQ; rw [if_neg (by omega), if_neg (by omega)])) (k2 10 (by decide)) (fun j hj => by unfold chQ; rw [if_neg (by omega), if_neg (by omega)]) (fun a ha => k3 a (by simp; exact ha))
        have f4 : FcS m3 m4 := ⟨by rw [k3 18 (by decide)], by rw [k3 18 (by decide)], by rw [k3 21 (by decide)], fun a ha => k3 a (by simp; omega)⟩
        exact fin m4 (chQ q x y) _ _ (by rw [eD]) (by rw [eD]) (chQ_ok hQ hn.2 ra rb) c4 (by rw [k3 0 (by decide)]; exact e15) (u3.tr f4.d) (by rw [k2 10 (by decide)]; exact e10)
  | succ f ih =>
    intro m l1 q hv h6 h14 hQ hC hl hf h
    have hK := hv.2.2.2.2.1
    have hn := hK.1
    have h4 : m c 4 = kNm K := hv.2.2.1.2.1
    have d3 := drV_r (m 0 15) (x := 3) (by decide)
    refine V_holdSession_30w hB ⟨c, hv.1, h6, by omega, by omega, fun z => by omega, fun _ => V_draw_c hB (by decide) (T_with_c ?_)⟩
    have u1 : FcD m (up m 0 15 (drS (m 0 15))) := FcD.up0
    have cr1 : CR (up m 0 15 (drS (m 0 15))) K B q AL r := hC.cg (up_off (by decide)) (by rw [up_ne (Or.inl (by decide))]) (by rw [up_ne (Or.inl (by decide))]) (up_off (by decide)) (up_off (by decide)) (fun a h1 h2 => up_off (by omega))
    obtain ⟨m1, hm1⟩ : ∃ m1, m1 = up m 0 15 (drS (m 0 15)) := ⟨_, rfl⟩
    rw [← hm1] at u1 cr1 ⊢
    have e17 : m1 17 = m 17 := by rw [hm1]; exact up_off (by decide)
    have cr2 : CR (up m1 17 1 (wth (m 17 1) l1 (drV (m 0 15) 3))) K B (lnBy q l1 (drV (m 0 15) 3)) AL r := by
      refine cr1.q (cr1.1.lean hn.2 (fun k h1 h2 => ?_) (fun j h1 _ _ => up_ne (Or.inr h1)) (fun j hj => by unfold lnBy; rw [if_neg (by omega)])) (up_ne (Or.inr (by decide))) (fun j hj => by unfold lnBy; rw [if_neg (by omega)]) (fun a ha => up_off ha)
      rw [up_same, nibI (by omega) (by omega) (by omega), (hC.1.1 k h1 h2).2.1]
      rfl
    have f2 : FcD m (up m1 17 1 (wth (m 17 1) l1 (drV (m 0 15) 3))) := u1.tr up17.d
    have e15 : up m1 17 1 (wth (m 17 1) l1 (drV (m 0 15) 3)) 0 15 = drS (m 0 15) := by rw [up_ne (Or.inl (by decide)), hm1]; exact up_same _ _ _ _
    refine ih _ (l1 + 1) (lnBy q l1 (drV (m 0 15) 3)) (hv.fcd f2) ((f2.2.2.2.1 6 (by decide)).trans h6) ((f2.2.2.2.1 14 (by decide)).trans h14) (lnBy_ok hQ hn.2 (by omega) (by omega)) cr2 (by omega) (by omega) (fun m' q' s' r' h0 g1 g2 g3 g4 g5 g6 => ?_)
    rw [e15] at g1 g2
    have e10 : up m1 17 1 (wth (m 17 1) l1 (drV (m 0 15) 3)) 17 10 = m 17 10 := by rw [up_ne (Or.inr (by decide)), e17]
    exact h m' q' s' r' h0 g1 g2 g3 g4 (f2.tr g5) (by omega)
end Sess
