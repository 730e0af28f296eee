/-! ===== odds: both sides ===== -/
def flp (q : Int → Int) (s : Int) : Int → Int := fun j => if bit s j = 1 then 2 - q j else q j
def GOd (K : Kn) (B : Int → Int) (pf : Pf) (q : Int → Int) (x s u : Int) : Int := if sdBy K B pf q (flp q s) = x then u else 0
def erA (K : Kn) (q : Int → Int) : Int := iA (pw (kNm K) - 1 - q 18) (iX (mdF q (kNm K).toNat 0 0) (-1))
theorem or_bit {a l k : Nat} (ha : a < 64) (hl : l < 6) (hk : k < 6) : (0 ≤ iO (a : Int) (iSl 1 (l : Int)) ∧ iO (a : Int) (iSl 1 (l : Int)) < 64) ∧ bit (iO (a : Int) (iSl 1 (l : Int))) k = if k = l then 1 else bit (a : Int) k :=
  (by decide +kernel : ∀ a : Nat, a < 64 → ∀ l : Nat, l < 6 → ∀ k : Nat, k < 6 → (0 ≤ iO (a : Int) (iSl 1 (l : Int)) ∧ iO (a : Int) (iSl 1 (l : Int)) < 64) ∧ bit (iO (a : Int) (iSl 1 (l : Int))) k = if k = l then 1 else bit (a : Int) k) a ha l hl k hk
theorem an_bit {a b k : Nat} (ha : a < 64) (hb : b < 64) (hk : k < 6) : (0 ≤ iA (a : Int) (iX (b : Int) (-1)) ∧ iA (a : Int) (iX (b : Int) (-1)) ≤ a) ∧ (bit (iA (a : Int) (iX (b : Int) (-1))) k = 1 ↔ bit (a : Int) k = 1 ∧ bit (b : Int) k = 0) :=
  (by decide +kernel : ∀ a : Nat, a < 64 → ∀ b : Nat, b < 64 → ∀ k : Nat, k < 6 → (0 ≤ iA (a : Int) (iX (b : Int) (-1)) ∧ iA (a : Int) (iX (b : Int) (-1)) ≤ a) ∧ (bit (iA (a : Int) (iX (b : Int) (-1))) k = 1 ↔ bit (a : Int) k = 1 ∧ bit (b : Int) k = 0)) a ha b hb k hk
theorem mdF_b {q : Int → Int} : ∀ (f l : Nat) (a : Int), l + f ≤ 6 → (0 ≤ a ∧ a < 64) → (0 ≤ mdF q f l a ∧ mdF q f l a < 64) ∧ ∀ k : Nat, k < 6 → bit (mdF q f l a) k = if l ≤ k ∧ k < l + f then (if q k = 1 then 1 else bit a k) else bit a k
  | 0, l, a, _, ha => ⟨ha, fun k hk => by rw [if_neg (by omega)]; rfl⟩
  | f + 1, l, a, h, ha => by
    obtain ⟨b, rfl⟩ : ∃ b : Nat, a = (b : Int) := ⟨a.toNat, by omega⟩
    have hl : ((l : Int) + 1) = ((l + 1 : Nat) : Int) := by omega
    have ho := fun k (hk : k < 6) => or_bit (a := b) (l := l) (k := k) (by omega) (by omega) hk
    have e : mdF q (f + 1) l (b : Int) = mdF q f ((l + 1 : Nat) : Int) (if q l = 1 then iO (b : Int) (iSl 1 (l : Int)) else b) := by rw [← hl]; rfl
    rw [e]
    have h2 := mdF_b (q := q) f (l + 1) (if q l = 1 then iO (b : Int) (iSl 1 (l : Int)) else b) (by omega) (by
      split
      · exact (ho 0 (by omega)).1
      · exact ha)
    refine ⟨h2.1, fun k hk => ?_⟩
    rw [h2.2 k hk]
    by_cases z : q l = 1
    · rw [if_pos z, (ho k hk).2]
      by_cases zk : k = l
      · rw [if_neg (by omega), if_pos zk, if_pos (by omega), zk, if_pos z]
      · rw [if_neg zk]
        by_cases z2 : l + 1 ≤ k ∧ k < l + 1 + f
        · rw [if_pos z2, if_pos (c := l ≤ k ∧ k < l + (f + 1)) (by omega)]
        · rw [if_neg z2, if_neg (by omega)]
    · rw [if_neg z]
      by_cases zk : k = l
      · rw [if_neg (by omega), if_pos (by omega), zk, if_neg z]
      · by_cases z2 : l + 1 ≤ k ∧ k < l + 1 + f
        · rw [if_pos z2, if_pos (c := l ≤ k ∧ k < l + (f + 1)) (by omega)]
        · rw [if_neg z2, if_neg (by omega)]
theorem erA_ok {K : Kn} {q : Int → Int} (hK : Kok K) (hQ : Qok K q) : (0 ≤ erA K q ∧ erA K q < 2 ^ (kNm K).toNat) ∧ ∀ k : Nat, (k : Int) < kNm K → (bit (erA K q) k = 1 ↔ bit (q 18) k = 0 ∧ q k ≠ 1) := by
  have hn := hK.1
  have h18 := hQ.2.1
  have hpw := pw_le hn
  obtain ⟨n, hn2⟩ : ∃ n : Nat, kNm K = (n : Int) := ⟨(kNm K).toNat, by omega⟩
  have hmd := mdF_b (q := q) n 0 0 (by omega) (by decide)
  have epw : pw (n : Int) = 2 ^ n := (by decide : ∀ n : Nat, n ≤ 6 → pw (n : Int) = 2 ^ n) n (by omega)
  have en : (kNm K).toNat = n := by omega
  have e0 : ((0 : Nat) : Int) = 0 := rfl
  rw [e0] at hmd
  unfold erA
  rw [en]
  obtain ⟨a, ha⟩ : ∃ a : Nat, pw (kNm K) - 1 - q 18 = (a : Int) := ⟨(pw (kNm K) - 1 - q 18).toNat, by omega⟩
  obtain ⟨b, hb⟩ : ∃ b : Nat, mdF q n 0 0 = (b : Int) := ⟨(mdF q n 0 0).toNat, by omega⟩
  rw [ha, hb]
  have han := fun k (hk : k < 6) => an_bit (a := a) (b := b) (k := k) (by omega) (by omega) hk
  refine ⟨⟨(han 0 (by omega)).1.1, ?_⟩, fun k hk => ?_⟩
  · have := (han 0 (by omega)).1.2
    rw [hn2] at ha h18
    rw [epw] at ha h18
    omega
  · rw [(han k (by omega)).2, ← ha, ab_bit (by omega) h18 (by omega), ← hb, hmd.2 k (by omega), if_pos (by omega)]
    have h0 : bit 0 (k : Int) = 0 := (by decide +kernel : ∀ k : Nat, k < 6 → bit 0 (k : Int) = 0) k (by omega)
    rw [h0]
    have hb2 := bit_r (q 18) k
    split <;> omega
theorem dvP_r {y u : Int} (hy : 0 ≤ y ∧ y ≤ 100) (hu : 0 ≤ u ∧ u ≤ 1000000000) : 0 ≤ dvP y u ∧ dvP y u ≤ u := by
  have h0 : 0 ≤ u * y := Int.mul_nonneg hu.1 hy.1
  have h1 : u * y ≤ u * 100 := Int.mul_le_mul_of_nonneg_left hy.2 hu.1
  have ea : (Int64.ofInt (u * y)).toInt = u * y := Int64.toInt_ofInt_of_le (by omega) (by omega)
  have eb : (Int64.ofInt 100).toInt = 100 := by decide
  have h2 : Int.tdiv (u * y) 100 = (u * y) / 100 := Int.tdiv_eq_ediv_of_nonneg h0
  unfold dvP jDv
  rw [Int64.toInt_div, ea, eb, h2, Int.bmod_eq_of_le (by omega) (by omega)]
  omega
theorem ptF_r {y E s : Int} (hy : 0 ≤ y ∧ y ≤ 100) : ∀ j : Nat, 0 ≤ ptF y E j s ∧ ptF y E j s ≤ 1000000000
  | 0 => by show (0 : Int) ≤ 1000000000 ∧ (1000000000 : Int) ≤ 1000000000; omega
  | j + 1 => by
    have h := ptF_r (E := E) (s := s) hy j
    have h2 := dvP_r hy h
    show 0 ≤ (if bit E j = 1 then (if bit s j = 1 then dvP y (ptF y E j s) else ptF y E j s - dvP y (ptF y E j s)) else ptF y E j s) ∧ (if bit E j = 1 then (if bit s j = 1 then dvP y (ptF y E j s) else ptF y E j s - dvP y (ptF y E j s)) else ptF y E j s) ≤ 1000000000
    repeat' split
    all_goals omega
theorem flp_ok {K : Kn} {q : Int → Int} {s : Int} (hQ : Qok K q) (hn : kNm K ≤ 6) : Qok K (leanS q (kNm K) (flp q s)) := by
  refine hQ.lean hn (fun k h1 h2 => ?_) (fun j hj => by unfold leanS; rw [if_neg (by omega)])
  have := (hQ.1 k h1 h2).1
  unfold leanS flp
  rw [if_pos ⟨h1, h2⟩]
  split <;> omega
section Odds
variable {X : Cx} {d : Nat} {m : Mm} {Q : Int → Mm → Prop} {c : Nat} {K : Kn} {B q : Int → Int} {pf : Pf}
theorem O_partOf_8_c (hB : Bsh X.2.2.1) (hI : CI X m c K B pf q) {E s y : Int} (hy : 0 ≤ y ∧ y ≤ 100) : ∀ (f l6 : Nat) (o7 : Option Int), kNm K - l6 = f → Q (ptF y E (kNm K).toNat s) m → O_partOf_8 X d E s y (ptF y E l6 s) l6 o7 m Q := by
  have h4 := hI.2.2.2.1
  have hn := hI.2.2.2.2.1
  intro f
  induction f with
  | zero =>
    intro l6 o7 hf h
    have e : (kNm K).toNat = l6 := by omega
    rw [e] at h
    exact O_partOf_8w hB ⟨c, hI.1, hI.2.2.1, by omega, by omega, fun _ => h, fun z => by omega⟩
  | succ f ih =>
    intro l6 o7 hf h
    have e1 : ((l6 : Int) + 1) = ((l6 + 1 : Nat) : Int) := by omega
    have eP : ptF y E (l6 + 1) s = if bit E l6 = 1 then (if bit s l6 = 1 then dvP y (ptF y E l6 s) else ptF y E l6 s - dvP y (ptF y E l6 s)) else ptF y E l6 s := rfl
    refine O_partOf_8w hB ⟨c, hI.1, hI.2.2.1, by omega, by omega, fun z => by omega, fun _ => ⟨fun z => ?_, fun z => ⟨by omega, fun z2 => ?_, fun z2 => ?_⟩⟩⟩
    · have z : ¬ bit E l6 = 1 := z
      have := ih (l6 + 1) o7 (by omega) h
      rw [eP, if_neg z] at this
      rw [e1]
      exact this
    · have z : bit E l6 = 1 := z
      have z2 : ¬ bit s l6 = 1 := z2
      have := ih (l6 + 1) (some (dvP y (ptF y E l6 s))) (by omega) h
      rw [eP, if_pos z, if_neg z2] at this
      rw [e1]
      exact this
    · have z : bit E l6 = 1 := z
      have z2 : bit s l6 = 1 := z2
      have := ih (l6 + 1) (some (dvP y (ptF y E l6 s))) (by omega) h
      rw [eP, if_pos z, if_pos z2] at this
      rw [e1]
      exact this
theorem O_parts_70_c (hB : Bsh X.2.2.1) {m0 : Mm} (hI : CI X m0 c K B pf q) (hp : 0 < kNm K) {x y l4 E s l8 : Int} (hx : 0 ≤ x ∧ x ≤ 2) : ∀ (f : Nat) (m : Mm) (l10 : Int), 0 ≤ l10 → kNm K - l10 = f → Sc 69 m0 m → (∀ j, 0 ≤ j → j < kNm K → nib (m 69 1) j = if j < l10 then flp q s j else q j) → (∀ j, j ≠ 1 → 0 ≤ j → j ≤ 9 → m 69 j = m0 17 j) → (∀ m' o8 o10, Sc 69 m0 m' → O_partsEnding_20 X (d + 9) x y (l4 + GOd K B pf q x s l8) E (s + 1) o8 o10 m' Q) → O_partsEnding_70 X (d + 9) x y l4 E s l8 l10 m Q := by
  obtain ⟨b1, b2, b3, b4, b5⟩ := hI.2.2.2.2.2 hp
  have hn := hI.2.2.2.2.1
  intro f
  induction f with
  | zero =>
    intro m l10 hl hf hc h1 h2 h
    have e4 : m c 4 = kNm K := by
      rw [hc.2.2 c (by have := hI.1; simp; omega)]
      exact hI.2.2.2.1
    have hv := b1.of (Or.inr (Or.inl rfl)) hc
    have hS : Sr K (wtB B) (m 69) (leanS q (kNm K) (flp q s)) := b4.lean hn.2 (fun k g1 g2 => by rw [h1 k g1 g2, if_pos (by omega)]; unfold leanS; rw [if_pos ⟨g1, g2⟩]) h2 (fun j hj => by unfold leanS; rw [if_neg (by omega)])
    refine O_partsEnding_70w hB ⟨c, hI.1, hv.2.1, by omega, by omega, fun _ => S_sideAtEnd_c hB hv (Or.inr (Or.inl rfl)) b2.w hS (flp_ok b3 hn.2) (fun m1 g1 g2 g3 => ?_), fun z => by omega⟩
    have hr := sideA_r K (endA K (wtB B) pf (leanS q (kNm K) (flp q s)) 22)
    refine ⟨by omega, by omega, fun z => ?_, fun z => ?_⟩
    · have := h m1 (some l8) (some l10) (hc.tr g3)
      unfold GOd sdBy at this
      rw [if_neg z, Int.add_zero] at this
      exact this
    · have := h m1 (some l8) (some l10) (hc.tr g3)
      unfold GOd sdBy at this
      rw [if_pos z] at this
      exact this
  | succ f ih =>
    intro m l10 hl hf hc h1 h2 h
    have e4 : m c 4 = kNm K := by
      rw [hc.2.2 c (by have := hI.1; simp; omega)]
      exact hI.2.2.2.1
    have hv := b1.of (Or.inr (Or.inl rfl)) hc
    have hql := (b3.1 l10 hl (by omega)).1
    have e17 : m 17 = m0 17 := hc.2.2 17 (by decide)
    refine O_partsEnding_70w hB ⟨c, hI.1, hv.2.1, by omega, by omega, fun z => by omega, fun _ => ⟨fun z => ?_, fun z => T_leanOf_c hB (by decide) (T_with_c ?_)⟩⟩
    · have z : ¬ bit s l10 = 1 := z
      refine ih m (l10 + 1) (by omega) (by omega) hc (fun j g1 g2 => ?_) h2 h
      rw [h1 j g1 g2]
      by_cases zj : j = l10
      · rw [if_neg (by omega), if_pos (by omega)]
        unfold flp
        rw [zj, if_neg z]
      · by_cases z2 : j < l10
        · rw [if_pos z2, if_pos (by omega)]
        · rw [if_neg z2, if_neg (by omega)]
    · have z : bit s l10 = 1 := z
      have eq : nib (m 17 1) l10 = q l10 := by rw [e17]; exact (b4.1 l10 hl (by omega)).2.1
      rw [eq]
      refine ih _ (l10 + 1) (by omega) (by omega) (hc.tr ⟨by rw [up_ne (Or.inl (by decide))], by rw [up_ne (Or.inl (by decide))], (Fr.rf _ _).up (by simp)⟩) (fun j g1 g2 => ?_) (fun j g1 g2 g3 => by rw [up_ne (Or.inr g1)]; exact h2 j g1 g2 g3) h
      rw [up_same, nibI (by omega) (by omega) (by omega), h1 j g1 g2]
      by_cases zj : j = l10
      · rw [if_pos zj, if_pos (by omega)]
        unfold flp
        rw [zj, if_pos z]
        omega
      · rw [if_neg zj]
        by_cases z2 : j < l10
        · rw [if_pos z2, if_pos (by omega)]
        · rw [if_neg z2, if_neg (by omega)]
theorem O_parts_20_c (hB : Bsh X.2.2.1) {m0 : Mm} (hI : CI X m0 c K B pf q) (hp : 0 < kNm K) {x y E : Int} (hx : 0 ≤ x ∧ x ≤ 2) (hy : 0 ≤ y ∧ y ≤ 100) (hE : 0 ≤ E ∧ E < 64) : ∀ (f : Nat) (m : Mm) (s : Nat) (l4 : Int) (o8 o10 : Option Int), E + 1 - s = f → SmC m0 m → l4 = smF (fun s => if subE s E = true then GOd K B pf q x s (ptF y E (kNm K).toNat s) else 0) s → (∀ m', SmC m0 m' → Q (smF (fun s => if subE s E = true then GOd K B pf q x s (ptF y E (kNm K).toNat s) else 0) (E + 1).toNat) m') → O_partsEnding_20 X (d + 9) x y l4 E s o8 o10 m Q := by
  intro f
  induction f with
  | zero =>
    intro m s l4 o8 o10 hf hs hl h
    have := h m hs
    rw [show (E + 1).toNat = s by omega, ← hl] at this
    exact O_partsEnding_20w hB ⟨by omega, by omega, fun _ => this, fun z => by omega⟩
  | succ f ih =>
    intro m s l4 o8 o10 hf hs hl h
    have hI2 := hI.sm hs
    have e1 : ((s : Int) + 1) = ((s + 1 : Nat) : Int) := by omega
    have eS : smF (fun s => if subE s E = true then GOd K B pf q x s (ptF y E (kNm K).toNat s) else 0) (s + 1) = l4 + (if subE s E = true then GOd K B pf q x s (ptF y E (kNm K).toNat s) else 0) := by rw [hl]; rfl
    refine O_partsEnding_20w hB ⟨by omega, by omega, fun z => by omega, fun _ => ⟨fun z => ⟨fun _ => ?_, fun z2 => absurd z2 (by decide)⟩, fun z => ?_⟩⟩
    · have hsub : ¬ subE s E = true := by unfold subE; exact fun e => z (of_decide_eq_true e)
      rw [if_neg hsub, Int.add_zero] at eS
      rw [e1]
      exact ih m (s + 1) l4 _ _ (by omega) hs eS.symm h
    · have hsub : subE s E = true := by unfold subE; exact decide_eq_true z
      rw [if_pos hsub] at eS
      have hr := ptF_r (y := y) (E := E) (s := s) hy (kNm K).toNat
      refine O_partOfw hB (O_partOf_8_c hB hI2 hy (kNm K).toNat 0 none (by omega) ⟨by omega, fun z2 => ?_, fun z2 => T_copy_c hB (by decide) (by decide) (by decide) ?_⟩)
      · have h0 : ptF y E (kNm K).toNat s = 0 := by
          split at z2
          · omega
          · omega
        have hg : GOd K B pf q x s 0 = 0 := by unfold GOd; split <;> rfl
        rw [h0, hg, Int.add_zero] at eS
        rw [e1]
        exact ih m (s + 1) l4 _ _ (by omega) hs eS.symm h
      · have hc : Sc 69 m (cpS m 69 17) := cp_sc (Or.inl rfl)
        obtain ⟨b1, b2, b3, b4, b5⟩ := hI2.2.2.2.2.2 hp
        refine O_parts_70_c hB hI2 hp hx (kNm K).toNat _ 0 (by decide) (by have := hI.2.2.2.2.1; omega) hc (fun j g1 g2 => ?_) (fun j _ g1 g2 => by unfold cpS; rw [if_pos ⟨rfl, g1, by omega⟩]) (fun m' o8 o10 hs' => ?_)
        · rw [if_neg (by omega)]
          unfold cpS
          rw [if_pos ⟨rfl, by decide, by decide⟩]
          exact (b4.1 j g1 g2).2.1
        · rw [e1]
          exact ih m' (s + 1) _ _ _ (by omega) (hs.tr (hs'.sm (Or.inl rfl))) eS.symm h
end Odds
