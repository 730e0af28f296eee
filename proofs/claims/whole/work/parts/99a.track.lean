/-! ===== tracks: the class ===== -/
def slN (K : Kn) (wt : Int → Int) (pf : Pf) : Nat → (Int → Int) → Int → Int
  | 0, q => q
  | f + 1, q => slN K wt pf f (slideA K wt pf q)
theorem slN_s {K : Kn} {wt : Int → Int} {pf : Pf} : ∀ (f : Nat) (q : Int → Int), slN K wt pf (f + 1) q = slideA K wt pf (slN K wt pf f q) := by
  intro f
  induction f with
  | zero => intro q; rfl
  | succ f ih => intro q; exact ih (slideA K wt pf q)
theorem slN_ok {K : Kn} {wt : Int → Int} {pf : Pf} (hK : Kok K) : ∀ (f : Nat) (q : Int → Int), Qok K q → q 21 + f ≤ kR K 3 → Qok K (slN K wt pf f q) ∧ slN K wt pf f q 21 = q 21 + f ∧ ∀ j, (j < 0 ∨ 24 ≤ j) → slN K wt pf f q j = q j := by
  intro f
  induction f with
  | zero => intro q h _; exact ⟨h, by show q 21 = q 21 + ((0 : Nat) : Int); omega, fun _ _ => rfl⟩
  | succ f ih =>
    intro q h hr
    have e21 : slideA K wt pf q 21 = q 21 + 1 := rfl
    obtain ⟨a1, a2, a3⟩ := ih (slideA K wt pf q) (slideA_ok hK h (by omega)) (by omega)
    refine ⟨a1, ?_, fun j hj => ?_⟩
    · show slN K wt pf f (slideA K wt pf q) 21 = _
      omega
    · show slN K wt pf f (slideA K wt pf q) j = _
      rw [a3 j hj]
      unfold slideA
      rw [if_neg (by omega), if_neg (by omega), if_neg (by omega)]
def tkC (K : Kn) (wt : Int → Int) (pf : Pf) (q : Int → Int) (r : Int) : Int := slN K wt pf r.toNat q 22
theorem tkC_r {K : Kn} {wt : Int → Int} {pf : Pf} {q : Int → Int} (hK : Kok K) (hQ : Qok K q) (h21 : q 21 = 0) {r : Int} (hr : 0 ≤ r ∧ r ≤ kR K 3) : 0 ≤ tkC K wt pf q r ∧ tkC K wt pf q r < kR K 0 := (slN_ok (wt := wt) (pf := pf) hK r.toNat q hQ (by omega)).1.2.2.2.2.2
/-- what was noted holds of a track -/
def fitF (last : Int) (col nr nc ni : Int → Int) : Nat → Int → Bool
  | 0, _ => true
  | f + 1, l => if ni l = (if col (min (nr l) last) = nc l then 1 else 0) then fitF last col nr nc ni f (l + 1) else false
def cntL (tk : Int → Int → Int) (r c : Int) : List Int → Int
  | [] => 0
  | w :: L => cntL tk r c L + (if tk w r = c then 1 else 0)
theorem cntL_ap (tk : Int → Int → Int) (r c w : Int) : ∀ L : List Int, cntL tk r c (L ++ [w]) = cntL tk r c L + (if tk w r = c then 1 else 0)
  | [] => rfl
  | a :: L => by
    have := cntL_ap tk r c w L
    show cntL tk r c (L ++ [w]) + _ = cntL tk r c L + _ + _
    omega
theorem cntL_r (tk : Int → Int → Int) (r c : Int) : ∀ L : List Int, 0 ≤ cntL tk r c L ∧ cntL tk r c L ≤ L.length
  | [] => by show (0 : Int) ≤ 0 ∧ (0 : Int) ≤ ((0 : Nat) : Int); omega
  | a :: L => by
    have := cntL_r tk r c L
    show 0 ≤ cntL tk r c L + _ ∧ cntL tk r c L + _ ≤ ((a :: L).length : Int)
    rw [List.length_cons]
    split <;> omega
section Track
variable {X : Cx} {d : Nat} {Q : Int → Mm → Prop} {Q0 : Mm → Prop} {c : Nat} {K : Kn} {pf : Pf} {wt q : Int → Int}
theorem Cv.smc {m m1 : Mm} (h : Cv X m c K pf) (hs : SmC m m1) : Cv X m1 c K pf := h.sc hs.1 hs.2.1 hs.2.2 (fun a ha => by simp at ha; omega)
theorem SmC.r8 {m m1 : Mm} (h : SmC m m1) (a : Nat) (ha : a = 77 ∨ a = 78 ∨ a = 79 ∨ a = 73) : m1 a = m a := h.2.2 a (by simp; omega)
theorem U_goDown_2_c (hB : Bsh X.2.2.1) (hW : Wok K wt) (hQ : Qok K q) (h21 : q 21 = 0) : ∀ (f : Nat) (m : Mm) (l1 : Int), Cv X m c K pf → Sr K wt (m 76) (slN K wt pf (l1 - 1).toNat q) → 1 ≤ l1 → kR K 3 + 1 - l1 = f → (∀ r, 1 ≤ r → r < l1 → m 80 r = tkC K wt pf q r) → (∀ m', (∀ r, 1 ≤ r → r ≤ kR K 3 → m' 80 r = tkC K wt pf q r) → SmC m m' → Fr [18, 19, 20, 76, 80] m m' → Q0 m') → U_goDown_2 X (d + 8) l1 m Q0 := by
  intro f
  induction f with
  | zero =>
    intro m l1 hv hS hl hf ht h
    have hK := hv.2.2.2.2.1
    have e3 : m (c + 1) 3 = kR K 3 := hv.2.2.1.2.2.2.1 3 (by omega) (by omega)
    have hk3 := hK.2.2.2.2.2.1
    refine U_goDown_2w hB ⟨c, hv.1, hv.2.1, K_lastRow_c hB hv.1 ⟨by omega, by omega, fun _ => h m (fun r h1 h2 => ht r h1 (by omega)) (SmC.rf m) (Fr.rf _ _), fun z => by omega⟩⟩
  | succ f ih =>
    intro m l1 hv hS hl hf ht h
    have hK := hv.2.2.2.2.1
    have e3 : m (c + 1) 3 = kR K 3 := hv.2.2.1.2.2.2.1 3 (by omega) (by omega)
    have hk3 := hK.2.2.2.2.2.1
    have hq1 := slN_ok (wt := wt) (pf := pf) hK (l1 - 1).toNat q hQ (by omega)
    refine U_goDown_2w hB ⟨c, hv.1, hv.2.1, K_lastRow_c hB hv.1 ⟨by omega, by omega, fun z => by omega, fun _ => ⟨fun z => by omega, fun _ => S_step_c hB hv (Or.inr (Or.inr rfl)) hW hS hq1.1 (fun m1 g1 g2 g3 g4 g5 g6 => ⟨by omega, ?_⟩)⟩⟩⟩
    have es : slideA K wt pf (slN K wt pf (l1 - 1).toNat q) = slN K wt pf (l1 + 1 - 1).toNat q := by
      rw [← slN_s]
      congr 1
      omega
    rw [es] at g1
    have e8 : m1 76 8 = tkC K wt pf q l1 := by
      rw [g1.2.2.2.2.2.1]
      unfold tkC
      congr 2
      omega
    have hs : SmC m (up m1 80 l1 (m1 76 8)) := ⟨by rw [up_ne (Or.inl (by decide))]; exact g6.1, by rw [up_ne (Or.inl (by decide))]; exact g6.2.1, (g6.2.2.wd (by decide)).up (by simp)⟩
    have hfr : Fr [18, 19, 20, 76, 80] m (up m1 80 l1 (m1 76 8)) := (g6.2.2.wd (by decide)).up (by simp)
    refine ih _ (l1 + 1) (hv.smc hs) (by rw [up_off (by decide)]; exact g1) (by omega) (by omega) (fun r h1 h2 => ?_) (fun m' w1 w2 w3 => h m' w1 (hs.tr w2) (hfr.tr w3))
    rw [up_at, e8]
    by_cases z : r = l1
    · rw [if_pos z, z]
    · rw [if_neg z, g6.2.2 80 (by decide)]
      exact ht r h1 (by omega)
theorem U_fits_2_c {m : Mm} {N : Int} {col nr nc ni : Int → Int} (hB : Bsh X.2.2.1) (hv : Cv X m c K pf) (hN : 0 ≤ N ∧ N ≤ 10) (h73 : m 73 0 = N) (hnt : ∀ j, 0 ≤ j → j < N → m 77 j = nr j ∧ m 78 j = nc j ∧ m 79 j = ni j) (hok : ∀ j, 0 ≤ j → j < N → (1 ≤ nr j ∧ nr j ≤ 20) ∧ (0 ≤ nc j ∧ nc j < 100) ∧ (ni j = 0 ∨ ni j = 1)) (hcol : ∀ r, 1 ≤ r → r ≤ kR K 3 → m 80 r = col r ∧ 0 ≤ col r ∧ col r < 100) : ∀ (f : Nat) (l1 : Int) (o2 : Option Int), 0 ≤ l1 → N - l1 = f → (fitF (kR K 3) col nr nc ni f l1 = true → Q 1 m) → (fitF (kR K 3) col nr nc ni f l1 = false → Q 0 m) → U_fits_2 X (d + 1) l1 o2 m Q := by
  have hK := hv.2.2.2.2.1
  have e3 : m (c + 1) 3 = kR K 3 := hv.2.2.1.2.2.2.1 3 (by omega) (by omega)
  have hk3 := hK.2.2.2.2.2.1
  intro f
  induction f with
  | zero =>
    intro l1 o2 hl hf h1 h0
    exact U_fits_2w hB ⟨by omega, by omega, fun _ => h1 rfl, fun z => by omega⟩
  | succ f ih =>
    intro l1 o2 hl hf h1 h0
    obtain ⟨n1, n2, n3⟩ := hnt l1 hl (by omega)
    obtain ⟨k1, k2, k3⟩ := hok l1 hl (by omega)
    obtain ⟨c1, c2⟩ := hcol (min (nr l1) (kR K 3)) (by omega) (by omega)
    refine U_fits_2w hB ⟨by omega, by omega, fun z => by omega, fun _ => ⟨by omega, c, hv.1, hv.2.1, K_lastRow_c hB hv.1 ?_⟩⟩
    rw [e3, n1, n2, n3, c1]
    have eF : fitF (kR K 3) col nr nc ni (f + 1) l1 = if ni l1 = (if col (min (nr l1) (kR K 3)) = nc l1 then 1 else 0) then fitF (kR K 3) col nr nc ni f (l1 + 1) else false := rfl
    refine ⟨by omega, by omega, by omega, by omega, by omega, fun z => ⟨by omega, fun z2 => ih _ _ (by omega) (by omega) (fun w => h1 ?_) (fun w => h0 ?_), fun z2 => h0 ?_⟩, fun z => ⟨by omega, fun z2 => ih _ _ (by omega) (by omega) (fun w => h1 ?_) (fun w => h0 ?_), fun z2 => h0 ?_⟩⟩
    · rw [eF, if_neg z, if_pos z2.symm]; exact w
    · rw [eF, if_neg z, if_pos z2.symm]; exact w
    · rw [eF, if_neg z, if_neg (fun e => z2 e.symm)]
    · rw [eF, if_pos z, if_pos z2.symm]; exact w
    · rw [eF, if_pos z, if_pos z2.symm]; exact w
    · rw [eF, if_pos z, if_neg (fun e => z2 e.symm)]
theorem U_count_2_c (hB : Bsh X.2.2.1) {col : Int → Int} {m0 : Mm} : ∀ (f : Nat) (m : Mm) (l1 : Int), Cv X m c K pf → 1 ≤ l1 → kR K 3 + 1 - l1 = f → (∀ r, 1 ≤ r → r ≤ kR K 3 → m 80 r = col r ∧ 0 ≤ col r ∧ col r < 9) → (∀ r k, 1 ≤ r → r ≤ kR K 3 → 0 ≤ k → k < 9 → m 81 (9 * r + k) = m0 81 (9 * r + k) + (if r < l1 ∧ col r = k then 1 else 0)) → (∀ m', (∀ r k, 1 ≤ r → r ≤ kR K 3 → 0 ≤ k → k < 9 → m' 81 (9 * r + k) = m0 81 (9 * r + k) + (if col r = k then 1 else 0)) → Fr [81] m m' → Q0 m') → U_countColumns_2 X (d + 1) l1 m Q0 := by
  intro f
  induction f with
  | zero =>
    intro m l1 hv hl hf hcol h81 h
    have hK := hv.2.2.2.2.1
    have e3 : m (c + 1) 3 = kR K 3 := hv.2.2.1.2.2.2.1 3 (by omega) (by omega)
    have hk3 := hK.2.2.2.2.2.1
    refine U_countColumns_2w hB ⟨c, hv.1, hv.2.1, K_lastRow_c hB hv.1 ⟨by omega, by omega, fun _ => h m (fun r k r1 r2 k1 k2 => ?_) (Fr.rf _ _), fun z => by omega⟩⟩
    rw [h81 r k r1 r2 k1 k2]
    by_cases z : col r = k
    · rw [if_pos ⟨by omega, z⟩, if_pos z]
    · rw [if_neg (fun e => z e.2), if_neg z]
  | succ f ih =>
    intro m l1 hv hl hf hcol h81 h
    have hK := hv.2.2.2.2.1
    have e3 : m (c + 1) 3 = kR K 3 := hv.2.2.1.2.2.2.1 3 (by omega) (by omega)
    have hk3 := hK.2.2.2.2.2.1
    obtain ⟨c1, c2⟩ := hcol l1 hl (by omega)
    refine U_countColumns_2w hB ⟨c, hv.1, hv.2.1, K_lastRow_c hB hv.1 ⟨by omega, by omega, fun z => by omega, fun _ => ⟨fun z => by omega, fun _ => ⟨by omega, by omega, ?_⟩⟩⟩⟩
    rw [c1]
    have hfr : Fr [81] m (up m 81 (9 * l1 + col l1) (m 81 (9 * l1 + col l1) + 1)) := (Fr.rf _ _).up (by simp)
    have hs : SmC m (up m 81 (9 * l1 + col l1) (m 81 (9 * l1 + col l1) + 1)) := ⟨by rw [up_ne (Or.inl (by decide))], by rw [up_ne (Or.inl (by decide))], hfr.wd (by decide)⟩
    refine ih _ (l1 + 1) (hv.smc hs) (by omega) (by omega) (by rw [up_off (by decide)]; exact hcol) (fun r k r1 r2 k1 k2 => ?_) (fun m' w1 w2 => h m' w1 (hfr.tr w2))
    rw [up_at]
    by_cases z : 9 * r + k = 9 * l1 + col l1
    · have er : r = l1 := by omega
      have ek : col l1 = k := by omega
      rw [if_pos z, ← z, h81 r k r1 r2 k1 k2, er, if_neg (by omega), if_pos ⟨by omega, ek⟩]
      omega
    · rw [if_neg z, h81 r k r1 r2 k1 k2]
      by_cases z2 : r < l1 ∧ col r = k
      · rw [if_pos z2, if_pos ⟨by omega, z2.2⟩]
      · rw [if_neg z2, if_neg]
        intro e
        by_cases z3 : r = l1
        · rw [z3] at e z
          omega
        · exact z2 ⟨by omega, e.2⟩
end Track
