/-! ===== image, back, log, count ===== -/
section Hist2
variable {X : Cx} {d : Nat} {m m' : Mm} {A : Ab} {t : Int} {Q : Int → Mm → Prop} {Q0 : Mm → Prop} {K : Kn} {B q : Int → Int} {AL : List (Int → Int)} {pf : Pf}
theorem H_lengthOfLog_c (hB : Bsh X.2.2.1) (hL : Lg (m 22) (m 17 10) q) (hl : m 17 10 ≤ 1000000) (h : Q (q 24) m) : H_lengthOfLog X (d + 1) m Q := by
  obtain ⟨-, a2, a3, -⟩ := hL
  refine H_lengthOfLogw hB ⟨by omega, ?_⟩
  rw [← a3]
  exact h
theorem H_entryAt_c (hB : Bsh X.2.2.1) (hL : Lg (m 22) (m 17 10) q) {x : Int} (hx : 0 ≤ x ∧ x < q 24) (h : Q (lrow q (q 24 - 1 - x)) m) : H_entryAt X d x m Q := by
  have e : iA (m 17 10 - x - 1) 1023 = (m 17 10 - 1 - x) % 1024 := by
    rw [iA_1023]
    congr 1
    omega
  refine H_entryAtw hB ?_
  rw [e, hL.2.2.2 x hx.1 hx.2]
  exact ⟨by omega, h⟩
theorem op_log (hB : Bsh X.2.2.1) (hI : InvA X m A t) {x y : Int} (hx : R3 x) (hy : R3 y) : Bth X A t (V_log X (d + 20) x y) (M_log X (d + 20) x y) m := by
  have hL := hI.1.2.2.2.1.2.1
  have hl := hI.1.2.2.2.2.2.1
  have ht := hI.2.2.1
  have h24 := hL.1.1
  refine bth_of (F := if x < 0 ∨ abQ A 24 ≤ x ∨ y < 0 ∨ 2 < y then -1000000 else abQ A (3 * abQ A 24 - 3 * x + y + 22)) hI (fun Q h => ?_) (fun m1 Q h1 h => ?_)
  · have h := h m hI.1.up (fun _ _ => rfl)
    refine V_logw hB ⟨hx, fun z => by rw [if_pos (by omega)] at h; exact h, fun z1 => H_lengthOfLog_c hB hL (by omega) ⟨by omega, fun z => by rw [if_pos (by omega)] at h; exact h, fun z2 => ⟨hy, fun z => by rw [if_pos (by omega)] at h; exact h, fun z3 => ⟨fun z4 => H_entryAt_c hB hL ⟨z1, z2⟩ ?_, fun z => by rw [if_pos (by omega)] at h; exact h⟩⟩⟩⟩
    rw [if_neg (by omega)] at h
    obtain ⟨r1, r2, r3⟩ := hL.1.2 (abQ A 24 - 1 - x) (by omega) (by omega)
    unfold lrow
    refine ⟨fun z5 => ⟨fun z6 => H_fallenInw hB ?_, fun z6 => H_sumInw hB ?_⟩, fun z5 => H_columnInw hB ?_⟩
    · rw [pk_fell r1 r2 r3]
      have e : 27 + 3 * (abQ A 24 - 1 - x) = 3 * abQ A 24 - 3 * x + y + 22 := by omega
      rw [e]
      exact h
    · rw [pk_sum r1 r2 r3]
      have e : 26 + 3 * (abQ A 24 - 1 - x) = 3 * abQ A 24 - 3 * x + y + 22 := by omega
      rw [e]
      exact h
    · rw [pk_col r1 r2 r3]
      have e : 25 + 3 * (abQ A 24 - 1 - x) = 3 * abQ A 24 - 3 * x + y + 22 := by omega
      rw [e]
      exact h
  · have h := h m1 h1 (fun _ _ => rfl)
    have e101 := h1.q
    refine M_logw hB ?_
    rw [e101]
    refine M_in_c hx (by decide) (by omega) (fun z1 z2 => q1e (M_in_c hy (by decide) (by decide) (fun z3 z4 => q1e ?_) (fun z => q0e (by rw [if_pos (by omega)] at h; exact h)))) (fun z => q0e (by rw [if_pos (by omega)] at h; exact h))
    rw [e101]
    rw [if_neg (by omega)] at h
    exact ⟨by omega, h⟩
theorem op_count (hB : Bsh X.2.2.1) (hI : InvA X m A t) {x : Int} (hx : R3 x) : Bth X A t (V_count X (d + 20) x) (M_count X (d + 20) x) m := by
  have hn := hI.n
  obtain ⟨c, c2, b1, b2, b3, b4, b5, b6, b7, b8⟩ := hI.1.2.1
  have hS := hI.1.S
  have hC := hI.1.2.2.2.1
  have hl := hI.1.2.2.2.2.2.1
  have ht := hI.2.2.1
  have hoff : iA (pw (kNm (abK A)) - 1) (iX (abQ A 18) (-1)) = pw (kNm (abK A)) - 1 - abQ A 18 := by
    have hr : 0 ≤ abQ A 18 ∧ abQ A 18 < pw (kNm (abK A)) := by
      by_cases z : kNm (abK A) = 0
      · rw [(hI.2.2.2.2.2.1 z).2.2.2.2.2 18 (by omega) (by omega), z]
        decide
      · exact (hI.q (by omega)).1.2.1
    have h6 := pw64 hn
    obtain ⟨a, ha⟩ : ∃ a : Nat, kNm (abK A) = (a : Int) := ⟨(kNm (abK A)).toNat, by omega⟩
    obtain ⟨b, hb⟩ : ∃ b : Nat, abQ A 18 = (b : Int) := ⟨(abQ A 18).toNat, by omega⟩
    rw [ha, hb] at hr ⊢
    rw [ha] at h6
    exact (by decide +kernel : ∀ a : Nat, a ≤ 6 → ∀ b : Nat, b < 64 → (b : Int) < pw (a : Int) → iA (pw (a : Int) - 1) (iX (b : Int) (-1)) = pw (a : Int) - 1 - (b : Int)) a (by omega) b (by omega) hr.2
  refine bth_of (F := if x = 0 then kNm (abK A) else if x = 1 then kNb (abK A) else if x = 2 then ((abW A).length : Int) else if x = 3 then abS A else if x = 4 then abH A else if x = 5 then abQ A 21 else if x = 6 then abQ A 22 else if x = 7 then pw (kNm (abK A)) - 1 - abQ A 18 else if x = 8 then abQ A 23 else if x = 9 then abD A else if x = 10 then abN A else if x = 11 then kIc (abK A) else if x = 12 then abQ A 24 else if x = 13 then ((abL A).length : Int) else -1000000) hI (fun Q h => ?_) (fun m1 Q h1 h => ?_)
  · have h := h m hI.1.up (fun _ _ => rfl)
    refine V_countw hB ⟨hx, fun z => ⟨c, b1, b4, ?_⟩, fun z => ⟨c, b1, b4, ?_⟩, fun z => ?_, fun z => ?_, fun z => ?_, fun z => ?_, fun z => ?_, fun z => ?_, fun z => ?_, fun z => ?_, fun z => ?_, fun z => ⟨c, b1, b4, ?_⟩, fun z => H_lengthOfLog_c hB hC.2.1 (by omega) ?_, fun z => ?_, fun z => ?_⟩
    · subst z; rw [b7.2.1]; exact h
    · subst z; rw [b7.1]; exact h
    · subst z; rw [hI.1.2.2.1.1]; exact h
    · subst z; rw [hI.1.1.1]; exact h
    · subst z; rw [hI.1.2.2.1.2.1]; exact h
    · subst z; rw [hS.2.2.2.2.1]; exact h
    · subst z; rw [hS.2.2.2.2.2.1]; exact h
    · subst z; rw [hS.2.1]; exact h
    · subst z; rw [hS.2.2.2.2.2.2]; exact h
    · subst z; rw [hI.1.2.2.2.2.2.2.2.1]; exact h
    · subst z; rw [hI.1.2.2.2.2.2.2.2.2.1]; exact h
    · subst z; rw [b7.2.2.1]; exact h
    · subst z; exact h
    · subst z; rw [hC.2.2.1]; exact h
    · rw [if_neg (by omega), if_neg (by omega), if_neg (by omega), if_neg (by omega), if_neg (by omega), if_neg (by omega), if_neg (by omega), if_neg (by omega), if_neg (by omega), if_neg (by omega), if_neg (by omega), if_neg (by omega), if_neg (by omega), if_neg (by omega)] at h
      exact h
  · have h := h m1 h1 (fun _ _ => rfl)
    have e101 := h1.q
    have e28 := h1.n
    refine M_countw hB ⟨hx, fun z => ?_, fun z => ?_, fun z => ?_, fun z => ?_, fun z => ?_, fun z => ?_, fun z => ?_, fun z => M_everybody_c hB (by omega) ?_, fun z => ?_, fun z => ?_, fun z => ?_, fun z => ?_, fun z => ?_, fun z => ?_, fun z => ?_⟩
    · subst z; rw [e28]; exact h
    · subst z; rw [h1.nb]; exact h
    · subst z; rw [h1.2.2.2.1.1]; exact h
    · subst z; rw [h1.1.1]; exact h
    · subst z; rw [h1.2.2.2.1.2.1]; exact h
    · subst z; rw [e101]; exact h
    · subst z; rw [e101]; exact h
    · subst z; rw [e28, e101, hoff]; exact h
    · subst z; rw [e101]; exact h
    · subst z; rw [h1.2.2.2.2.2.2.2.1]; exact h
    · subst z; rw [h1.2.2.2.2.2.2.2.2.1]; exact h
    · subst z
      have e29 : m1 83 29 = kIc (abK A) := by rw [← h1.2.1]; rfl
      rw [e29]; exact h
    · subst z; rw [e101]; exact h
    · subst z; rw [h1.2.2.2.2.1.2.1]; exact h
    · rw [if_neg (by omega), if_neg (by omega), if_neg (by omega), if_neg (by omega), if_neg (by omega), if_neg (by omega), if_neg (by omega), if_neg (by omega), if_neg (by omega), if_neg (by omega), if_neg (by omega), if_neg (by omega), if_neg (by omega), if_neg (by omega)] at h
      exact h
/-! the image -/
theorem H_keepImage_22_c (hB : Bsh X.2.2.1) (hL : Lg (m' 22) (m' 17 10) q) : ∀ (f : Nat) (m : Mm) (l2 : Int), 0 ≤ l2 → q 24 - l2 = f → m 22 = m' 22 → m 17 = m' 17 → m 24 10 = q 24 → (∀ i, 0 ≤ i → i < l2 → m 25 i = lrow q (q 24 - 1 - i)) → (∀ m2, (∀ i, 0 ≤ i → i < q 24 → m2 25 i = lrow q (q 24 - 1 - i)) → m2 21 1 = 1 → (∀ k, k ≠ 1 → m2 21 k = m 21 k) → Fr [21, 25] m m2 → Q0 m2) → H_keepImage_22 X (d + 1) l2 m Q0 := by
  intro f
  induction f with
  | zero =>
    intro m l2 hl hf e22 e17 e24 h1 h
    have hr := hL.1.1
    exact H_keepImage_22w hB ⟨by omega, by omega, fun _ => h _ (fun i i1 i2 => by rw [up_ne (Or.inl (by decide))]; exact h1 i i1 (by omega)) (up_same _ _ _ _) (fun k hk => up_ne (Or.inr hk)) ((Fr.rf _ _).up (by simp)), fun z => by omega⟩
  | succ f ih =>
    intro m l2 hl hf e22 e17 e24 h1 h
    have hr := hL.1.1
    refine H_keepImage_22w hB ⟨by omega, by omega, fun z => by omega, fun _ => H_entryAt_c hB (q := q) (by rw [e22, e17]; exact hL) ⟨hl, by omega⟩ ⟨by omega, ?_⟩⟩
    refine ih _ (l2 + 1) (by omega) (by omega) (by rw [up_off (by decide)]; exact e22) (by rw [up_off (by decide)]; exact e17) (by rw [up_ne (Or.inl (by decide))]; exact e24) (fun i i1 i2 => ?_) (fun m2 g1 g2 g3 g4 => h m2 g1 g2 (fun k hk => by rw [g3 k hk, up_ne (Or.inl (by decide))]) (((Fr.rf _ _).up (by simp)).tr g4))
    rw [up_at]
    by_cases z : i = l2
    · rw [if_pos z, z]
    · rw [if_neg z]
      exact h1 i i1 (by omega)
theorem M_image_11_c (hB : Bsh X.2.2.1) {a0 : Int → Int} : ∀ (f : Nat) (m : Mm) (l1 : Int), 0 ≤ l1 → 205 - l1 = f → m 101 = a0 → (∀ j, 0 ≤ j → j < l1 → m 112 j = a0 j) → (∀ m2, (∀ j, 0 ≤ j → j < 205 → m2 112 j = a0 j) → m2 83 52 = 1 → (∀ k, k ≠ 52 → m2 83 k = m 83 k) → Fr [83, 112] m m2 → Q (a0 21) m2) → M_image_11 X d l1 m Q := by
  intro f
  induction f with
  | zero =>
    intro m l1 hl hf e101 h1 h
    refine M_image_11w hB ⟨by omega, fun _ => ?_, fun z => by omega⟩
    rw [e101]
    exact h _ (fun j j1 j2 => by rw [up_ne (Or.inl (by decide))]; exact h1 j j1 (by omega)) (up_same _ _ _ _) (fun k hk => up_ne (Or.inr hk)) ((Fr.rf _ _).up (by simp))
  | succ f ih =>
    intro m l1 hl hf e101 h1 h
    refine M_image_11w hB ⟨by omega, fun z => by omega, fun _ => ⟨by omega, ?_⟩⟩
    refine ih _ (l1 + 1) (by omega) (by omega) (by rw [up_off (by decide)]; exact e101) (fun i i1 i2 => ?_) (fun m2 g1 g2 g3 g4 => h m2 g1 g2 (fun k hk => by rw [g3 k hk, up_ne (Or.inl (by decide))]) (((Fr.rf _ _).up (by simp)).tr g4))
    rw [up_at, e101]
    by_cases z : i = l1
    · rw [if_pos z, z]
    · rw [if_neg z]
      exact h1 i i1 (by omega)
theorem op_image (hB : Bsh X.2.2.1) (hI : InvA X m A t) (ht : t + 1 ≤ 1000) : ∃ A', AOk A' (t + 1) ∧ Bth X A' t (V_image X (d + 20)) (M_image X (d + 20)) m := by
  have hn := hI.n
  obtain ⟨c, c2, b1, b2, b3, b4, b5, b6, b7, b8⟩ := hI.1.2.1
  have h4 := b7.2.1
  have hS := hI.1.S
  have hC := hI.1.2.2.2.1
  have hl := hI.1.2.2.2.2.2.1
  by_cases c0 : kNm (abK A) = 0
  · refine ⟨A, hI.2.2.up ht, bth_of (F := -1) hI (fun Q h => ?_) (fun m1 Q h1 h => ?_)⟩
    · exact V_imagew hB (V_hasCanton_c hB b1 b4 (by omega) (fun z => by omega) (fun _ => q0n (h m hI.1.up (fun _ _ => rfl))))
    · have e28 := h1.n
      exact M_imagew hB ⟨by omega, fun z => by omega, fun _ => h m1 h1 (fun _ _ => rfl)⟩
  · have hA1 := hI.2.2.up ht
    refine ⟨setQ A (abQ A) (abL A) (some (abQ A)), ⟨hA1.1, hA1.2.1, hA1.2.2.1, fun z => absurd z c0, fun hp => ⟨(hA1.2.2.2.2.1 hp).1, (hA1.2.2.2.2.1 hp).2.1, (hA1.2.2.2.2.1 hp).2.2.1, (hA1.2.2.2.2.1 hp).2.2.2.1, fun a ha => ?_⟩, hA1.2.2.2.2.2⟩, bth_of (F := abQ A 21) hI (fun Q h => ?_) (fun m1 Q h1 h => ?_)⟩
    · have e : abQ A = a := by
        have e2 : some (abQ A) = some a := ha
        exact Option.some.inj e2
      rw [← e]
      exact (hA1.2.2.2.2.1 hp).2.2.1
    · refine V_imagew hB (V_hasCanton_c hB b1 b4 (by omega) (fun _ => q1n (H_keepImagew hB (T_copy_c hB (by decide) (by decide) (by decide) ?_))) (fun z => by omega))
      have f1 : ∀ a, a ≠ 24 → cpS m 24 17 a = m a := fun a ha => cp_fr m 24 17 a (by simp; exact ha)
      refine H_lengthOfLog_c hB (q := abQ A) (by rw [f1 22 (by decide), f1 17 (by decide)]; exact hC.2.1) (by rw [f1 17 (by decide)]; have := hI.2.2.1; omega) ?_
      obtain ⟨m1, hm1⟩ : ∃ m1, m1 = up (cpS m 24 17) 24 10 (abQ A 24) := ⟨_, rfl⟩
      rw [← hm1]
      have f2 : ∀ a, a ≠ 24 → m1 a = m a := fun a ha => by rw [hm1, up_off ha]; exact f1 a ha
      refine H_keepImage_22_c hB (m' := m) hC.2.1 (abQ A 24).toNat m1 0 (by omega) (by have := hC.2.1.1.1; omega) (f2 22 (by decide)) (f2 17 (by decide)) (by rw [hm1]; exact up_same _ _ _ _) (fun i i1 i2 => by omega) (fun m2 g1 g2 g3 g4 => ?_)
      have f3 : ∀ a, a ≠ 24 → a ≠ 21 → a ≠ 25 → m2 a = m a := fun a h1 h2 h3 => by rw [g4 a (by simp; omega)]; exact f2 a h1
      have e7 : m2 17 7 = abQ A 21 := by rw [f3 17 (by decide) (by decide) (by decide)]; exact hS.2.2.2.2.1
      rw [e7]
      obtain ⟨a1, -, a3, a4, a5, a6, a7, a8, a9⟩ := hI.1.up
      have k21 : ∀ k, k ≠ 1 → m2 21 k = m 21 k := fun k hk => by rw [g3 k hk, f2 21 (by decide)]
      have e24 : ∀ j, 0 ≤ j → j ≤ 9 → m2 24 j = m 17 j := fun j h1 h2 => by
        rw [g4 24 (by decide), hm1, up_ne (Or.inr (by omega))]
        unfold cpS
        rw [if_pos ⟨rfl, h1, by omega⟩]
      refine h m2 ?_ (fun a ha => f3 a (by omega) (by omega) (by omega))
      unfold CW
      rw [f3 1 (by decide) (by decide) (by decide), f3 2 (by decide) (by decide) (by decide), f3 0 (by decide) (by decide) (by decide), f3 18 (by decide) (by decide) (by decide), f3 17 (by decide) (by decide) (by decide), f3 82 (by decide) (by decide) (by decide), f3 73 (by decide) (by decide) (by decide), f3 77 (by decide) (by decide) (by decide), f3 78 (by decide) (by decide) (by decide), f3 79 (by decide) (by decide) (by decide)]
      refine ⟨a1, ⟨c, c2, b1, b2, b3, b4, b5, b6, b7.fr (f3 _ (by omega) (by omega) (by omega)) (f3 _ (by omega) (by omega) (by omega)) (f3 _ (by omega) (by omega) (by omega)), fun j h1 h2 => by rw [f3 (c + 3) (by omega) (by omega) (by omega)]; exact b8 j h1 h2⟩, a3.cg (by rw [f3 0 (by decide) (by decide) (by decide)]) (by rw [f3 0 (by decide) (by decide) (by decide)]) (by rw [f3 18 (by decide) (by decide) (by decide)]) (f3 8 (by decide) (by decide) (by decide)) (fun a ha => f3 a (by omega) (by omega) (by omega)), a4.cg (f3 17 (by decide) (by decide) (by decide)) (k21 0 (by decide)) (k21 4 (by decide)) (f3 22 (by decide) (by decide) (by decide)) (f3 23 (by decide) (by decide) (by decide)) (fun a h1 h2 => f3 a (by omega) (by omega) (by omega)), ⟨g2, hS.cong e24, ?_, hC.2.1.1, g1⟩, a6, a7, a8, a9⟩
      rw [g4 24 (by decide), hm1]
      exact up_same _ _ _ _
    · have e28 := h1.n
      refine M_imagew hB ⟨by omega, fun _ => M_image_11_c hB (a0 := abQ A) 205 m1 0 (by omega) (by omega) h1.q (fun j j1 j2 => by omega) (fun m2 g1 g2 g3 g4 => ?_), fun z => by omega⟩
      refine h m2 ?_ (fun a ha => g4 a (by simp; omega))
      obtain ⟨a1, a2, a3, a4, a5, a6, a7, a8, a9⟩ := h1
      unfold MW
      rw [g3 2 (by decide), g3 33 (by decide), g3 48 (by decide), g4 84 (by decide), g4 100 (by decide), g4 102 (by decide), g4 107 (by decide), g4 108 (by decide), g4 109 (by decide)]
      refine ⟨a1, ?_, a3, a4.cg (g3 13 (by decide)) (g3 32 (by decide)) (fun a x y => g4 a (by simp; omega)), ?_, ⟨g2, g1⟩, a7, a8, a9⟩
      · unfold kM at a2 ⊢
        rw [g3 27 (by decide), g3 28 (by decide), g3 29 (by decide), g4 98 (by decide), g4 99 (by decide)]
        exact a2
      · unfold MR at a5 ⊢
        rw [g3 36 (by decide), g4 101 (by decide), g4 103 (by decide)]
        exact a5
end Hist2
