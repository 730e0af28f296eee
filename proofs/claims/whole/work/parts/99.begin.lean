/-! ===== how a canton begins: both sides ===== -/
def bgL (B p : Int → Int) (n : Int) : Int → Int := fun j => if 0 ≤ j ∧ j < n then B (4 * j + 1) else if 6 ≤ j ∧ j < 6 + n then B (4 * (j - 6) + 2) else if 12 ≤ j ∧ j < 12 + n then j - 12 else if 0 ≤ j ∧ j < 24 then 0 else p j
def bgQ (K : Kn) (B p : Int → Int) : Int → Int := fun j => if j = 22 then kR K 1 else if j = 20 then kR K 4 else bgL B p (kNm K) j
theorem bgQ_ok {K : Kn} {B p : Int → Int} (hK : Kok K) (hB : Bok K B) : Qok K (bgQ K B p) := by
  have hn := hK.1
  have h4 := hK.2.2.2.2.2.2.1
  have h1 := hK.2.2.2.1
  have h3 := hK.2.2.2.2.2.1
  have hpw := pw_le hn
  have z : ∀ j, (j = 18 ∨ j = 19 ∨ j = 21) → bgQ K B p j = 0 := by
    intro j hj
    unfold bgQ bgL
    rw [if_neg (by omega), if_neg (by omega), if_neg (by omega), if_neg (by omega), if_neg (by omega), if_pos (by omega)]
  have e22 : bgQ K B p 22 = kR K 1 := by unfold bgQ; rw [if_pos rfl]
  have e20 : bgQ K B p 20 = kR K 4 := by unfold bgQ; rw [if_neg (by decide), if_pos rfl]
  refine ⟨fun k g1 g2 => ?_, by rw [z 18 (by omega)]; omega, by rw [z 19 (by omega)]; omega, by rw [e20]; omega, by rw [z 21 (by omega)]; omega, by rw [e22]; omega⟩
  have hb := hB k g1 g2
  have a1 : bgQ K B p k = B (4 * k + 1) := by
    unfold bgQ bgL
    rw [if_neg (by omega), if_neg (by omega), if_pos (by omega)]
  have a2 : bgQ K B p (6 + k) = B (4 * k + 2) := by
    unfold bgQ bgL
    rw [if_neg (by omega), if_neg (by omega), if_neg (by omega), if_pos (by omega)]
    congr 1
    omega
  have a3 : bgQ K B p (12 + k) = k := by
    unfold bgQ bgL
    rw [if_neg (by omega), if_neg (by omega), if_neg (by omega), if_neg (by omega), if_pos (by omega)]
    omega
  rw [a1, a2, a3]
  omega
section Begin
variable {X : Cx} {d : Nat} {Q0 : Mm → Prop} {c s : Nat} {K : Kn} {B p : Int → Int}
theorem T_begin_2_c (hB : Bsh X.2.2.1) (hc : cO c) (hs : sO s) (hn : 0 ≤ kNm K ∧ kNm K ≤ 6) (hBk : Bok K B) : ∀ (f : Nat) (m : Mm) (l2 : Int), Ck m c K → (∀ j, 0 ≤ j → j < 4 * kNm K → m (c + 3) j = B j) → 0 ≤ l2 → kNm K - l2 = f → (∀ k, 0 ≤ k → k < l2 → nib (m s 0) k = B (4 * k) ∧ nib (m s 1) k = B (4 * k + 1) ∧ nib (m s 2) k = B (4 * k + 2) ∧ nib (m s 3) k = k) → (∀ m', Sr K (wtB B) (m' s) (bgQ K B p) → m' s 10 = 0 → Fr [s] m m' → Q0 m') → T_begin_2 X (d + 1) s c l2 m Q0 := by
  intro f
  have hsc : s ≠ c ∧ s ≠ c + 1 ∧ s ≠ c + 2 ∧ s ≠ c + 3 := by omega
  induction f with
  | zero =>
    intro m l2 hk hb hl hf hnib h
    have e4 : m c 4 = kNm K := hk.2.1
    have r4 : m (c + 1) 4 = kR K 4 := hk.2.2.2.1 4 (by omega) (by omega)
    have r1 : m (c + 1) 1 = kR K 1 := hk.2.2.2.1 1 (by omega) (by omega)
    refine T_begin_2w hB hc hs ⟨by omega, by omega, fun _ => T_walkBackw hB hc hs ?_, fun z => by omega⟩
    have o : ∀ (m0 : Mm) (i v : Int) (a : Nat) (j : Int), a ≠ s → up m0 s i v a j = m0 a j := fun _ _ _ _ _ h => up_ne (Or.inl h)
    rw [o _ _ _ (c + 1) _ (by omega), o _ _ _ (c + 1) _ (by omega), o _ _ _ (c + 1) _ (by omega), o _ _ _ c _ (by omega), o _ _ _ c _ (by omega), o _ _ _ c _ (by omega), r4, r1, e4, pw_e hn]
    obtain ⟨v9, hv9⟩ : ∃ v9, v9 = up (up (up m s 5 0) s 6 (kR K 4)) s 10 0 s 9 + 1 := ⟨_, rfl⟩
    rw [← hv9]
    obtain ⟨m1, hm1⟩ : ∃ m1, m1 = up (up (up (up (up (up (up (up m s 5 0) s 6 (kR K 4)) s 10 0) s 7 0) s 8 (kR K 1)) s 4 (pw (kNm K) - 1)) s 9 v9) s 9 0 := ⟨_, rfl⟩
    rw [← hm1]
    have hlow : ∀ j, 0 ≤ j → j ≤ 3 → m1 s j = m s j := fun j h1 h2 => by
      rw [hm1, up_ne (Or.inr (by omega)), up_ne (Or.inr (by omega)), up_ne (Or.inr (by omega)), up_ne (Or.inr (by omega)), up_ne (Or.inr (by omega)), up_ne (Or.inr (by omega)), up_ne (Or.inr (by omega)), up_ne (Or.inr (by omega))]
    have z : ∀ j, (j = 18 ∨ j = 19 ∨ j = 21 ∨ j = 23) → bgQ K B p j = 0 := by
      intro j hj
      unfold bgQ bgL
      rw [if_neg (by omega), if_neg (by omega), if_neg (by omega), if_neg (by omega), if_neg (by omega), if_pos (by omega)]
    refine h m1 ⟨fun k g1 g2 => ?_, ?_, ?_, ?_, ?_, ?_, ?_⟩ ?_ ?_
    · obtain ⟨n0, n1, n2, n3⟩ := hnib k g1 (by omega)
      rw [hlow 0 (by decide) (by decide), hlow 1 (by decide) (by decide), hlow 2 (by decide) (by decide), hlow 3 (by decide) (by decide)]
      refine ⟨n0, n1.trans ?_, n2.trans ?_, n3.trans ?_⟩
      · unfold bgQ bgL
        rw [if_neg (by omega), if_neg (by omega), if_pos (by omega)]
      · unfold bgQ bgL
        rw [if_neg (by omega), if_neg (by omega), if_neg (by omega), if_pos (by omega)]
        congr 1
        omega
      · unfold bgQ bgL
        rw [if_neg (by omega), if_neg (by omega), if_neg (by omega), if_neg (by omega), if_pos (by omega)]
        omega
    · rw [z 18 (by omega), hm1, up_ne (Or.inr (by decide)), up_ne (Or.inr (by decide)), up_same]
      omega
    · rw [z 19 (by omega), hm1, up_ne (Or.inr (by decide)), up_ne (Or.inr (by decide)), up_ne (Or.inr (by decide)), up_ne (Or.inr (by decide)), up_ne (Or.inr (by decide)), up_ne (Or.inr (by decide)), up_ne (Or.inr (by decide)), up_same]
    · rw [hm1, up_ne (Or.inr (by decide)), up_ne (Or.inr (by decide)), up_ne (Or.inr (by decide)), up_ne (Or.inr (by decide)), up_ne (Or.inr (by decide)), up_ne (Or.inr (by decide)), up_same]
      rfl
    · rw [z 21 (by omega), hm1, up_ne (Or.inr (by decide)), up_ne (Or.inr (by decide)), up_ne (Or.inr (by decide)), up_ne (Or.inr (by decide)), up_same]
    · rw [hm1, up_ne (Or.inr (by decide)), up_ne (Or.inr (by decide)), up_ne (Or.inr (by decide)), up_same]
      rfl
    · rw [z 23 (by omega), hm1, up_same]
    · rw [hm1, up_ne (Or.inr (by decide)), up_ne (Or.inr (by decide)), up_ne (Or.inr (by decide)), up_ne (Or.inr (by decide)), up_ne (Or.inr (by decide)), up_same]
    · rw [hm1]
      exact ((((((((Fr.rf _ _).up (by simp)).up (by simp)).up (by simp)).up (by simp)).up (by simp)).up (by simp)).up (by simp)).up (by simp)
  | succ f ih =>
    intro m l2 hk hb hl hf hnib h
    have e4 : m c 4 = kNm K := hk.2.1
    have hbk := hBk l2 hl (by omega)
    have o : ∀ (m0 : Mm) (i v : Int) (a : Nat) (j : Int), a ≠ s → up m0 s i v a j = m0 a j := fun _ _ _ _ _ h => up_ne (Or.inl h)
    refine T_begin_2w hB hc hs ⟨by omega, by omega, fun z => by omega, fun _ => K_ofMember_c hB hc (by omega) (T_with_c (K_ofMember_c hB hc (by omega) (T_with_c (K_ofMember_c hB hc (by omega) (T_with_c (T_with_c ?_))))))⟩
    rw [o _ _ _ (c + 3) _ (by omega), o _ _ _ (c + 3) _ (by omega), o _ _ _ (c + 3) _ (by omega), hb _ (by omega) (by omega), hb _ (by omega) (by omega), hb _ (by omega) (by omega), Int.add_zero]
    obtain ⟨m1, hm1⟩ : ∃ m1, m1 = up (up (up (up m s 0 (wth (m s 0) l2 (B (4 * l2)))) s 1 (wth (m s 1) l2 (B (4 * l2 + 1)))) s 2 (wth (m s 2) l2 (B (4 * l2 + 2)))) s 3 (wth (m s 3) l2 l2) := ⟨_, rfl⟩
    have e : ∀ x, x = m1 → T_begin_2 X (d + 1) s c (l2 + 1) x Q0 := by
      intro x ex
      rw [ex]
      have hfr : Fr [s] m m1 := by rw [hm1]; exact ((((Fr.rf _ _).up (by simp)).up (by simp)).up (by simp)).up (by simp)
      have n0 : m1 s 0 = wth (m s 0) l2 (B (4 * l2)) := by rw [hm1, up_ne (Or.inr (by decide)), up_ne (Or.inr (by decide)), up_ne (Or.inr (by decide)), up_same]
      have n1 : m1 s 1 = wth (m s 1) l2 (B (4 * l2 + 1)) := by rw [hm1, up_ne (Or.inr (by decide)), up_ne (Or.inr (by decide)), up_same]
      have n2 : m1 s 2 = wth (m s 2) l2 (B (4 * l2 + 2)) := by rw [hm1, up_ne (Or.inr (by decide)), up_same]
      have n3 : m1 s 3 = wth (m s 3) l2 l2 := by rw [hm1, up_same]
      refine ih m1 (l2 + 1) (hk.fr (hfr _ (by simp; omega)) (hfr _ (by simp; omega)) (hfr _ (by simp; omega))) (by rw [hfr (c + 3) (by simp; omega)]; exact hb) (by omega) (by omega) (fun k g1 g2 => ?_) (fun m' w1 w2 w3 => h m' w1 w2 (hfr.tr w3))
      rw [n0, n1, n2, n3, nibI (by omega) (by omega) (by omega), nibI (by omega) (by omega) (by omega), nibI (by omega) (by omega) (by omega), nibI (by omega) (by omega) (by omega)]
      by_cases z : k = l2
      · rw [if_pos z, if_pos z, if_pos z, if_pos z, z]
        exact ⟨rfl, rfl, rfl, rfl⟩
      · rw [if_neg z, if_neg z, if_neg z, if_neg z]
        exact hnib k g1 (by omega)
    refine e _ ?_
    rw [up_ne (m := m) (Or.inr (by decide)), up_ne (Or.inr (by decide)), up_ne (Or.inr (by decide)), hm1]
theorem T_begin_c {m : Mm} (hB : Bsh X.2.2.1) (hc : cO c) (hs : sO s) (hn : 0 ≤ kNm K ∧ kNm K ≤ 6) (hBk : Bok K B) (hk : Ck m c K) (hb : ∀ j, 0 ≤ j → j < 4 * kNm K → m (c + 3) j = B j) (h : ∀ m', Sr K (wtB B) (m' s) (bgQ K B p) → m' s 10 = 0 → Fr [s] m m' → Q0 m') : T_begin X (d + 1) s c m Q0 := T_beginw hB hc hs (T_begin_2_c hB hc hs hn hBk (kNm K).toNat m 0 hk hb (by omega) (by omega) (fun k h1 h2 => by omega) h)
theorem M_begin_2_c {m0 : Mm} (hB : Bsh X.2.2.1) : ∀ (f : Nat) (m : Mm) (l1 : Int), 0 ≤ l1 → 24 - l1 = f → (∀ m', m' 101 = (fun j => if l1 ≤ j ∧ j < 24 then 0 else m 101 j) → Fr [101] m m' → M_begin_23 X (d + 1) 0 m' Q0) → M_begin_2 X (d + 1) l1 m Q0 := by
  intro f
  induction f with
  | zero =>
    intro m l1 hl hf h
    refine M_begin_2w hB ⟨by omega, fun _ => h m ?_ (Fr.rf _ _), fun z => by omega⟩
    funext j
    rw [if_neg (by omega)]
  | succ f ih =>
    intro m l1 hl hf h
    refine M_begin_2w hB ⟨by omega, fun z => by omega, fun _ => ⟨by omega, ih _ (l1 + 1) (by omega) (by omega) (fun m' w1 w2 => h m' ?_ (((Fr.rf _ _).up (by simp)).tr w2))⟩⟩
    rw [w1]
    funext j
    rw [up_at]
    by_cases z : j = l1
    · rw [if_neg (by omega), if_pos z, if_pos (by omega)]
    · by_cases z2 : l1 + 1 ≤ j ∧ j < 24
      · rw [if_pos z2, if_pos (by omega)]
      · rw [if_neg z2, if_neg z, if_neg (by omega)]
theorem M_begin_23_c (hB : Bsh X.2.2.1) (hn : 0 ≤ kNm K ∧ kNm K ≤ 6) : ∀ (f : Nat) (m : Mm) (l1 : Int), kM m = K → m 100 = B → 0 ≤ l1 → kNm K - l1 = f → m 101 = bgL B p l1 → (∀ m', m' 101 = bgQ K B p → Fr [101] m m' → Q0 m') → M_begin_23 X (d + 1) l1 m Q0 := by
  intro f
  induction f with
  | zero =>
    intro m l1 hk hb hl hf h101 h
    have e28 : m 83 28 = kNm K := by rw [← hk]; rfl
    have e4 : m 98 4 = kR K 4 := by rw [← hk]; rfl
    have e1 : m 98 1 = kR K 1 := by rw [← hk]; rfl
    refine M_begin_23w hB ⟨by omega, by omega, fun _ => ?_, fun z => by omega⟩
    rw [e4, e1]
    refine h _ ?_ (((Fr.rf _ _).up (by simp)).up (by simp))
    funext j
    have el : l1 = kNm K := by omega
    rw [up_at, up_at, h101, el]
    rfl
  | succ f ih =>
    intro m l1 hk hb hl hf h101 h
    have e28 : m 83 28 = kNm K := by rw [← hk]; rfl
    refine M_begin_23w hB ⟨by omega, by omega, fun z => by omega, fun _ => M_of_c hB (by omega) ⟨by omega, M_of_c hB (by omega) ⟨by omega, by omega, ?_⟩⟩⟩
    rw [up_off (by decide), hb]
    have hfr : Fr [101] m (up (up (up m 101 l1 (B (4 * l1 + 1))) 101 (l1 + 6) (B (4 * l1 + 2))) 101 (l1 + 12) l1) := (((Fr.rf _ _).up (by simp)).up (by simp)).up (by simp)
    refine ih _ (l1 + 1) ?_ (by rw [hfr 100 (by decide)]; exact hb) (by omega) (by omega) ?_ (fun m' w1 w2 => h m' w1 (hfr.tr w2))
    · rw [← hk]
      unfold kM
      rw [hfr 98 (by decide), hfr 99 (by decide), hfr 83 (by decide)]
    · funext j
      rw [up_at, up_at, up_at, h101]
      unfold bgL
      by_cases z1 : j = l1 + 12
      · rw [if_pos z1, if_neg (c := 0 ≤ j ∧ j < l1 + 1) (by omega), if_neg (c := 6 ≤ j ∧ j < 6 + (l1 + 1)) (by omega), if_pos (c := 12 ≤ j ∧ j < 12 + (l1 + 1)) (by omega)]
        omega
      · rw [if_neg z1]
        by_cases z2 : j = l1 + 6
        · rw [if_pos z2, if_neg (c := 0 ≤ j ∧ j < l1 + 1) (by omega), if_pos (c := 6 ≤ j ∧ j < 6 + (l1 + 1)) (by omega)]
          congr 1
          omega
        · rw [if_neg z2]
          by_cases z3 : j = l1
          · rw [if_pos z3, if_pos (c := 0 ≤ j ∧ j < l1 + 1) (by omega), z3]
          · rw [if_neg z3]
            by_cases y1 : 0 ≤ j ∧ j < l1
            · rw [if_pos y1, if_pos (by omega)]
            · rw [if_neg y1, if_neg (c := 0 ≤ j ∧ j < l1 + 1) (by omega)]
              by_cases y2 : 6 ≤ j ∧ j < 6 + l1
              · rw [if_pos y2, if_pos (by omega)]
              · rw [if_neg y2, if_neg (c := 6 ≤ j ∧ j < 6 + (l1 + 1)) (by omega)]
                by_cases y3 : 12 ≤ j ∧ j < 12 + l1
                · rw [if_pos y3, if_pos (by omega)]
                · rw [if_neg y3, if_neg (c := 12 ≤ j ∧ j < 12 + (l1 + 1)) (by omega)]
theorem M_begin_c {m : Mm} (hB : Bsh X.2.2.1) (hn : 0 ≤ kNm K ∧ kNm K ≤ 6) (hk : kM m = K) (hb : m 100 = B) (h : ∀ m', m' 101 = bgQ K B (m 101) → Fr [101] m m' → Q0 m') : M_begin X (d + 1) m Q0 := by
  refine M_beginw hB (M_begin_2_c (m0 := m) hB 24 m 0 (by decide) (by decide) (fun m1 w1 w2 => ?_))
  refine M_begin_23_c (p := m 101) hB hn (kNm K).toNat m1 0 ?_ (by rw [w2 100 (by decide)]; exact hb) (by decide) (by omega) ?_ (fun m' g1 g2 => h m' g1 (w2.tr g2))
  · rw [← hk]
    unfold kM
    rw [w2 98 (by decide), w2 99 (by decide), w2 83 (by decide)]
  · rw [w1]
    funext j
    unfold bgL
    rw [if_neg (c := 0 ≤ j ∧ j < 0) (by omega), if_neg (c := 6 ≤ j ∧ j < 6 + 0) (by omega), if_neg (c := 12 ≤ j ∧ j < 12 + 0) (by omega)]
end Begin
