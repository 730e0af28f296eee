/-! ===== text: a law is made, both sides ===== -/
section TextLaw
variable {X : Cx} {d : Nat} {m m' : Mm} {A : Ab} {t : Int}
theorem MW.rg (h : MW m A) (hh : ∀ a, 83 ≤ a → a < 113 → m' a = m a) : MW m' A := by
  obtain ⟨a1, a2, a3, a4, a5, a6, a7, a8, a9⟩ := h
  have e83 := hh 83 (by omega) (by omega)
  unfold MW
  rw [e83, hh 84 (by omega) (by omega), hh 100 (by omega) (by omega), hh 102 (by omega) (by omega), hh 107 (by omega) (by omega), hh 108 (by omega) (by omega), hh 109 (by omega) (by omega)]
  refine ⟨a1, ?_, a3, a4.cg (by rw [e83]) (by rw [e83]) (fun a x y => hh a (by omega) (by omega)), ?_, ?_, a7, a8, a9⟩
  · unfold kM at a2 ⊢
    rw [hh 98 (by omega) (by omega), hh 99 (by omega) (by omega), e83]
    exact a2
  · unfold MR at a5 ⊢
    rw [e83, hh 101 (by omega) (by omega), hh 103 (by omega) (by omega)]
    exact a5
  · unfold MIm at a6 ⊢
    rw [e83, hh 112 (by omega) (by omega)]
    exact a6
theorem lw_app1 {Ls : List Lw} {L : Lw} {i : Nat} (hi : i < Ls.length) : lw (Ls ++ [L]) i = lw Ls i := by
  unfold lw
  rw [List.getD_eq_getElem?_getD, List.getD_eq_getElem?_getD, List.getElem?_append_left hi]
theorem lw_app2 {Ls : List Lw} {L : Lw} : lw (Ls ++ [L]) Ls.length = L := by
  unfold lw
  rw [List.getD_eq_getElem?_getD, List.getElem?_append_right (Nat.le_refl _), Nat.sub_self]
  rfl
/-- with a law more -/
def AofL (A : Ab) (L : Lw) : Ab := ((0, abT A), A.2.1, A.2.2.1, A.2.2.2.1, A.2.2.2.2.1, (abW A ++ [L], abH A))
theorem op_text_law (hB : Bsh X.2.2.1) (hB2 : X.2.2.1.length ≤ 1000000) (hI : InvA X m A t) (ht : t + 1 ≤ 1000) (h114 : 114 ≤ X.2.2.1.length) (hlen : X.2.2.1.length + 1 < 600000) (hn7 : X.2.2.2 + 241 ≤ 7000000) (hl4 : (abW A).length < 4) (hgo : (lwP (abT A) (abS A) 241 0 []).1 = true) :
    ∃ (ln : Nat) (m1 : Mm) (A' : Ab), ln ≤ 240 ∧ AOk A' (t + 1) ∧ Ru (gP X.1 X.2.1) (d + 60) 115 (some (vI ((abW A).length : Int)), Wd (shL X.2.2.1 ln) m1, X.2.2.2 + 1 + ln) (0, [some (.ref 0), some (vI 1)], [], Wd X.2.2.1 m, X.2.2.2) ∧ M_text (X.1, X.2.1, shL X.2.2.1 ln, X.2.2.2 + 1 + ln) (d + 60) 1 m1 (fun v m2 => v = ((abW A).length : Int) ∧ CW (X.1, X.2.1, shL X.2.2.1 ln, X.2.2.2 + 1 + ln) m2 A' (t + 1) ∧ MW m2 A') := by
  have hT := hI.2.2.tok
  have hn := hT.1
  have hA1 := hI.2.2.up ht
  have hL : LsOk (abW A) := hI.2.2.2.2.2.2.2.2.2.2.1
  have hpC : TpC (abT A) (abS A) m := hI.1.1
  have e04 : m 0 4 = (abW A).length := hI.1.2.2.1.1
  have hrr := lwP_r (T := abT A) (n := abS A) 241 0 [] (by decide) hn.1 ⟨fun c hc => by simp at hc, Int.le_refl _, Int.le_refl _⟩
  have hLw := hrr.2 hgo
  have hLok := hLw.ok (by omega)
  have hlsn := stpL_len (lwP (abT A) (abS A) 241 0 []).2.2 0
  have hls2 := hLw.2.2
  obtain ⟨L, hLd⟩ : ∃ L, L = (lwP (abT A) (abS A) 241 0 []).2.2 := ⟨_, rfl⟩
  rw [← hLd] at hLw hLok hlsn hls2
  obtain ⟨ln, hln⟩ : ∃ ln, ln = (stpL L 0).length := ⟨_, rfl⟩
  have hln240 : ln ≤ 240 := by omega
  obtain ⟨l, hl⟩ : ∃ l, l = X.2.2.1.length := ⟨_, rfl⟩
  -- the class reads it
  obtain ⟨v, mr, ⟨hv, hfr, h62, h7⟩, hrun⟩ := P_read_c (X := X) (d := d + 27) (Q := fun v mr => v = -1 ∧ Fr [6, 7] m mr ∧ mr 6 2 = (ln : Int) ∧ ∀ j : Nat, j < ln → mr 7 j = (stpL L 0).getD j 0) hB hB2 hT hpC (fun mr hf hs => by
    obtain ⟨s1, s2⟩ := hs hgo
    rw [← hLd] at s1 s2
    exact ⟨by rw [if_pos hgo], hf, by rw [s1, hln], fun j hj => s2 j (by omega)⟩)
  have r04 : mr 0 4 = ((abW A).length : Int) := by rw [hfr 0 (by decide)]; exact e04
  have htl := take_law (xs := X.1) (fv := X.2.1) (d := d + 56) (n := X.2.2.2) (sh := X.2.2.1) (m := mr) hB hln240 h62 h114 hlen (by omega) r04 (by omega)
  have hrunT := V_text_law (X := X) (d := d + 59) (m := m) hB (by rw [e04]; omega) ⟨v, mr, ⟨hv, htl⟩, hrun⟩ rfl
  obtain ⟨m1, hm1⟩ : ∃ m1, m1 = up (up (up (mmL mr X.2.2.1.length ln) 8 ((abW A).length : Int) (X.2.2.1.length : Int)) 1 1 0) 0 4 (((abW A).length : Int) + 1) := ⟨_, rfl⟩
  rw [← hm1] at hrunT
  -- how the memory is then
  have hold : ∀ a, a < l → mmL mr l ln a = mr a := fun a ha => by
    unfold mmL
    rw [up_off (by omega), upR_off (by omega)]
    funext j
    unfold mkL
    rw [if_neg (by omega), if_neg (by omega)]
  rw [← hl] at hm1
  have q : ∀ a, a ≠ 0 → a ≠ 1 → a ≠ 6 → a ≠ 7 → a ≠ 8 → a < l → m1 a = m a := fun a z0 z1 z6 z7 z8 za => by rw [hm1, up_off z0, up_off z1, up_off z8, hold a za]; exact hfr a (by simp; omega)
  have q0 : ∀ k, k ≠ 4 → m1 0 k = m 0 k := fun k hk => by rw [hm1, up_ne (Or.inr hk), up_off (by decide), up_off (by decide), hold 0 (by omega), hfr 0 (by decide)]
  have q04 : m1 0 4 = ((abW A).length : Int) + 1 := by rw [hm1, up_same]
  have q11 : m1 1 1 = 0 := by rw [hm1, up_off (by decide), up_same]
  have q8 : ∀ j, m1 8 j = if j = ((abW A).length : Int) then (l : Int) else m 8 j := fun j => by rw [hm1, up_off (by decide), up_off (by decide), up_at, hold 8 (by omega), hfr 8 (by decide)]
  have qa : ∀ j : Nat, j < ln → m1 (l + 1) j = (stpL L 0).getD j 0 := fun j hj => by
    rw [hm1, up_off (by omega), up_off (by omega), up_off (by omega)]
    unfold mmL
    rw [up_off (by omega), upR_in (by omega)]
    unfold mkL
    rw [if_neg (by omega), if_neg (by omega), show (j : Int) - 0 + 0 = j by omega]
    exact h7 j hj
  have hB' : Bsh (shL X.2.2.1 ln) := (hB.app _).app _
  have hsl : ∀ a s, X.2.2.1[a]? = some s → (shL X.2.2.1 ln)[a]? = some s := fun a s hs => by
    have ha : a < X.2.2.1.length := by
      rcases Nat.lt_or_ge a X.2.2.1.length with w | w
      · exact w
      · rw [List.getElem?_eq_none w] at hs; cases hs
    unfold shL
    rw [List.getElem?_append_left (by simp; omega), List.getElem?_append_left ha]
    exact hs
  have hsla : ∀ a s, X.2.2.1[a]? = some s → a < l := fun a s hs => by
    rcases Nat.lt_or_ge a X.2.2.1.length with w | w
    · omega
    · rw [List.getElem?_eq_none w] at hs; cases hs
  have hsL1 : (shL X.2.2.1 ln)[l]? = some (.inl (4, [l + 1 + 3])) := by
    rw [hl]
    unfold shL
    rw [List.getElem?_append_left (by simp), List.getElem?_append_right (Nat.le_refl _), Nat.sub_self]
    rfl
  have hsL2 : (shL X.2.2.1 ln)[l + 1]? = some (.inr (.inl (0, ln))) := by
    rw [hl]
    unfold shL
    rw [List.getElem?_append_right (by simp)]
    have e : X.2.2.1.length + 1 - (X.2.2.1 ++ [Sum.inl (4, [X.2.2.1.length + 1 + 3])] : List Sh).length = 0 := by simp
    rw [e]
    rfl
  have hCW : CW (X.1, X.2.1, shL X.2.2.1 ln, X.2.2.2 + 1 + ln) m1 (AofL A L) (t + 1) := by
    obtain ⟨a1, ⟨c, c2, b1, b2, b3, b4, b5, b6, b7, b8⟩, ⟨l1, l2, l3, l4, l5⟩, a4, a5, a6, a7, a8, a9⟩ := hI.1.up
    have g : ∀ a, 9 ≤ a → a < 114 → m1 a = m a := fun a h1 h2 => q a (by omega) (by omega) (by omega) (by omega) (by omega) (by omega)
    refine ⟨⟨q11, fun j h1 h2 => ?_⟩, ⟨c, c2, b1, b2, b3, by rw [q0 6 (by decide)]; exact b4, by rw [q0 7 (by decide)]; exact b5, by rw [g 18 (by omega) (by omega)]; exact b6, b7.fr (g _ (by omega) (by omega)) (g _ (by omega) (by omega)) (g _ (by omega) (by omega)), fun j h1 h2 => by rw [g (c + 3) (by omega) (by omega)]; exact b8 j h1 h2⟩, ⟨?_, by rw [q0 5 (by decide)]; exact l2, ?_, ?_, fun i hi => ?_⟩, a4.cg (g _ (by omega) (by omega)) (by rw [g 21 (by omega) (by omega)]) (by rw [g 21 (by omega) (by omega)]) (g _ (by omega) (by omega)) (g _ (by omega) (by omega)) (fun a h1 h2 => g a (by omega) (by omega)), a5.cg (by rw [g 21 (by omega) (by omega)]) (g _ (by omega) (by omega)) (g _ (by omega) (by omega)), by rw [g 17 (by omega) (by omega)]; exact a6, fun j h1 h2 => by rw [g 82 (by omega) (by omega)]; exact a7 j h1 h2, by rw [q0 14 (by decide)]; exact a8, ?_⟩
    · have : j < 0 := h2
      omega
    · rw [q04]
      show _ = ((abW A ++ [L]).length : Int)
      rw [List.length_append, List.length_singleton]
      omega
    · show abH A = -1 ∨ (0 ≤ abH A ∧ abH A < ((abW A ++ [L]).length : Int))
      rw [List.length_append, List.length_singleton]
      omega
    · rw [g 18 (by omega) (by omega), l4]
      show (if abH A < 0 then -1 else m 8 (abH A)) = if abH A < 0 then -1 else m1 8 (abH A)
      by_cases z : abH A < 0
      · rw [if_pos z, if_pos z]
      · rw [if_neg z, if_neg z, q8, if_neg (by omega)]
    · have hi' : i < (abW A ++ [L]).length := hi
      rw [List.length_append, List.length_singleton] at hi'
      show ClAt _ m1 (m1 8 i) (lw (abW A ++ [L]) i)
      by_cases z : i = (abW A).length
      · subst z
        rw [lw_app2, q8, if_pos rfl]
        exact ⟨l, l + 1, ln, rfl, by omega, by omega, hsL1, hsL2, by omega, hln.symm, qa⟩
      · rw [lw_app1 (by omega), q8, if_neg (by omega)]
        obtain ⟨l', a', ln', p1, p2, p3, p4, p5, p6, p7, p8⟩ := l5 i (by show i < (abW A).length; omega)
        have hal := hsla _ _ p5
        exact ⟨l', a', ln', p1, p2, p3, hsl _ _ p4, hsl _ _ p5, p6, p7, fun j hj => by rw [q a' (by omega) (by omega) (by omega) (by omega) (by omega) hal]; exact p8 j hj⟩
    · show m1 73 0 = abN A ∧ ∀ j, 0 ≤ j → j < abN A → m1 77 j = abNr A j ∧ m1 78 j = abNc A j ∧ m1 79 j = abNi A j
      rw [g 73 (by omega) (by omega), g 77 (by omega) (by omega), g 78 (by omega) (by omega), g 79 (by omega) (by omega)]
      exact a9
  have hMW1 : MW m1 A := hI.2.1.rg (fun a h1 h2 => q a (by omega) (by omega) (by omega) (by omega) (by omega) (by omega))
  have hAok : AOk (AofL A L) (t + 1) := by
    obtain ⟨a0, a1, a2, a3, a4, a5, a6, a7, a8, a9⟩ := hA1
    refine ⟨a0, ⟨by show (0 : Int) ≤ 0; decide, by show (0 : Int) ≤ 240; decide, fun j h1 h2 => ?_⟩, a2, a3, a4, a5, a6, a7, ⟨?_, fun L' hL' => ?_⟩, ?_⟩
    · have : j < 0 := h2
      omega
    · show (abW A ++ [L]).length ≤ 4
      rw [List.length_append, List.length_singleton]
      omega
    · have hL'' : L' ∈ abW A ++ [L] := hL'
      rcases List.mem_append.mp hL'' with w | w
      · exact a8.2 L' w
      · rw [List.mem_singleton.mp w]; exact hLok
    · show abH A = -1 ∨ (0 ≤ abH A ∧ abH A < ((abW A ++ [L]).length : Int))
      rw [List.length_append, List.length_singleton]
      omega
  refine ⟨ln, m1, AofL A L, hln240, hAok, hrunT, ?_⟩
  have e13 : m1 83 13 = (abW A).length := hMW1.2.2.2.1.1
  have hH := hI.1.2.2.1.2.2.1
  refine M_textw (X := (X.1, X.2.1, shL X.2.2.1 ln, X.2.2.2 + 1 + ln)) (d := d + 59) hB' ⟨by decide, fun _ => M_text_22w hB' ⟨by decide, fun w => absurd rfl w, fun _ => ⟨by omega, fun w => by omega, fun _ => ?_⟩⟩, fun w => absurd w (by decide)⟩
  refine M_readLaw_c (d := d + 18) (tx := m1 83 13) hB' hT (by omega) hMW1.1 (fun m2 hf hml => ?_)
  rw [if_pos hgo]
  refine ⟨by decide, fun w => absurd rfl w, fun _ => ?_⟩
  have hml := hml hgo
  rw [← hLd] at hml
  have f13 : m2 83 13 = (abW A).length := by rw [hf.2.1 13 (by decide) (by decide) (by decide) (by decide)]; exact e13
  obtain ⟨m3, hm3⟩ : ∃ m3, m3 = up (up m2 83 2 0) 83 13 (m2 83 13 + 1) := ⟨_, rfl⟩
  rw [← hm3]
  have w : ∀ a, a ≠ 83 → m3 a = m2 a := fun a ha => by rw [hm3, up_off ha, up_off ha]
  have wk : ∀ k, k ≠ 2 → k ≠ 13 → m3 83 k = m2 83 k := fun k h1 h2 => by rw [hm3, up_ne (Or.inr h2), up_ne (Or.inr h1)]
  refine ⟨f13, hCW.lo (fun a ha => by rw [w a (by omega)]; exact hf.1 a (by simp; omega)), ?_⟩
  obtain ⟨c1, c2', c3, c4, c5, c6, c7, c8, c9⟩ := hMW1
  have v : ∀ a, a ≠ 83 → (a < 85 ∨ 91 < a) → m3 a = m1 a := fun a h1 h2 => by rw [w a h1]; exact hf.1 a (by simp; omega)
  have vk : ∀ k, k ≠ 2 → k ≠ 3 → k ≠ 4 → k ≠ 5 → k ≠ 13 → k ≠ 14 → m3 83 k = m1 83 k := fun k h2 h3 h4 h5 h13 h14 => by rw [wk k h2 h13]; exact hf.2.1 k h3 h4 h5 h14
  refine ⟨⟨?_, fun j h1 h2 => ?_⟩, ?_, by rw [v 100 (by decide) (by decide)]; exact c3, ⟨?_, ?_, fun i hi => ?_⟩, ?_, ?_, fun j h1 h2 => by rw [v 102 (by decide) (by decide)]; exact c7 j h1 h2, by rw [vk 33 (by decide) (by decide) (by decide) (by decide) (by decide) (by decide)]; exact c8, ?_⟩
  · rw [hm3, up_ne (Or.inr (by decide)), up_same]; rfl
  · have : j < 0 := h2
    omega
  · show kM m3 = abK A
    unfold kM at c2' ⊢
    rw [v 98 (by decide) (by decide), v 99 (by decide) (by decide), vk 27 (by decide) (by decide) (by decide) (by decide) (by decide) (by decide), vk 28 (by decide) (by decide) (by decide) (by decide) (by decide) (by decide), vk 29 (by decide) (by decide) (by decide) (by decide) (by decide) (by decide)]
    exact c2'
  · rw [hm3, up_same, f13]
    show _ = ((abW A ++ [L]).length : Int)
    rw [List.length_append, List.length_singleton]
    omega
  · rw [vk 32 (by decide) (by decide) (by decide) (by decide) (by decide) (by decide)]; exact c4.2.1
  · have hi' : i < (abW A ++ [L]).length := hi
    rw [List.length_append, List.length_singleton] at hi'
    show MlAt m3 (i : Int) (lw (abW A ++ [L]) i)
    by_cases z : i = (abW A).length
    · subst z
      rw [lw_app2]
      obtain ⟨y1, y2, y3⟩ := hml
      rw [e13] at y1 y3
      exact ⟨by rw [w 88 (by decide)]; exact y1, MlCl_cg _ 0 0 y3 (fun j _ _ => by rw [w 89 (by decide), w 90 (by decide), w 91 (by decide)]; exact ⟨rfl, rfl, rfl⟩) (fun j _ _ => by rw [w 85 (by decide), w 86 (by decide)]; exact ⟨rfl, rfl⟩)⟩
    · rw [lw_app1 (by omega)]
      have hold2 := MLaw_tx c4 hL hf (by omega)
      obtain ⟨y1, y2⟩ := hold2.2.2 i (by omega)
      exact ⟨by rw [w 88 (by decide)]; exact y1, MlCl_cg _ 0 0 y2 (fun j _ _ => by rw [w 89 (by decide), w 90 (by decide), w 91 (by decide)]; exact ⟨rfl, rfl, rfl⟩) (fun j _ _ => by rw [w 85 (by decide), w 86 (by decide)]; exact ⟨rfl, rfl⟩)⟩
  · show MR m3 (abQ A) (abL A)
    unfold MR at c5 ⊢
    rw [v 101 (by decide) (by decide), v 103 (by decide) (by decide), vk 36 (by decide) (by decide) (by decide) (by decide) (by decide) (by decide)]
    exact c5
  · show MIm m3 (abI A)
    unfold MIm at c6 ⊢
    rw [v 112 (by decide) (by decide), vk 52 (by decide) (by decide) (by decide) (by decide) (by decide) (by decide)]
    exact c6
  · show m3 83 48 = abN A ∧ ∀ j, 0 ≤ j → j < abN A → m3 107 j = abNr A j ∧ m3 108 j = abNc A j ∧ m3 109 j = abNi A j
    rw [v 107 (by decide) (by decide), v 108 (by decide) (by decide), v 109 (by decide) (by decide), vk 48 (by decide) (by decide) (by decide) (by decide) (by decide) (by decide)]
    exact c9
end TextLaw
