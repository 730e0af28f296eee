/-! ===== the law's own loop: switch, rounds, all of it ===== -/
section LLoop
set_option maxRecDepth 100000
theorem law_sw {X : Cx} {V : aS → Prop} {m : Mm} {A : Ab} {t : Int} {o5 o6 : Option Value} (hL : LawR X.1 X.2.1 V) (hB : Bsh X.2.2.1) (hfv : X.2.1 = .null ∨ X.2.1 = .ref (aK + 9)) (h114 : 114 ≤ X.2.2.1.length) (hw : X.2.2.1.length ≤ 500000) (hn : X.2.2.2 ≤ 6000000) (hl : X.1.length ≤ 3072) {i : Int} (hi : 0 ≤ i ∧ i + 5 < X.1.length) (hI : InvA X m A t) (ht : t + 1 ≤ 1000) (K : ∀ (sh' : List Sh) (n' : Nat) (m' : Mm) (A' : Ab) (o5 o6 : Option Value), Bsh sh' → 114 ≤ sh'.length → sh'.length ≤ X.2.2.1.length + 2 → n' ≤ X.2.2.2 + 241 → InvA (X.1, X.2.1, sh', n') m' A' (t + 1) → V (1540, lL i o5 o6, [], Wd sh' m', n')) {c : Int} (hc : R3 c) : V (40, lL i o5 o6, [vI c], Wd X.2.2.1 m, X.2.2.2) := by
  have hV := hL.1
  have S3 : ∀ j, R3 (sc X.1 j) := sc_r X.1
  have hw2 : X.2.2.1.length ≤ 1000000 := by omega
  have Ks : ∀ m' A', CW X m' A' (t + 1) → MW m' A' → AOk A' (t + 1) → V (1540, lL i o5 o6, [], Wd X.2.2.1 m', X.2.2.2) := fun m' A' c w a => K X.2.2.1 X.2.2.2 m' A' o5 o6 hB h114 (by omega) (by omega) ⟨c, w, a⟩
  have hAu := hI.2.2.up ht
  by_cases c0 : c = 0
  · refine r_sw hV (pc' := 220) rfl (by decide) (by rw [c0]; rfl) ?_
    obtain ⟨A', hA', hb⟩ := op_feed (d := 779) (x := (sc X.1 (i + 1))) (y := (sc X.1 (i + 2))) (z := (sc X.1 (i + 3))) (u := (sc X.1 (i + 4))) (v := (sc X.1 (i + 5))) hB hI ht
    exact lc_feed hV hB hw2 hl hi hb (fun m' c w => Ks m' A' c w hA')
  by_cases c1 : c = 1
  · refine r_sw hV (pc' := 293) rfl (by decide) (by rw [c1]; rfl) ?_
    obtain ⟨A', hA', hb⟩ := op_end (d := 779) (x := (sc X.1 (i + 1))) hB hI ht (S3 _)
    exact lc_end hV hB hw2 hl hi hb (fun m' c w => Ks m' A' c w hA')
  by_cases c2 : c = 2
  · refine r_sw hV (pc' := 318) rfl (by decide) (by rw [c2]; rfl) ?_
    exact lc_fault hV hB hw2 hl hi (op_fault (d := 739) (x := (sc X.1 (i + 1))) hB hw2 hfv hI (S3 _)) (fun m' c w => Ks m' A c w hAu)
  by_cases c3 : c = 3
  · refine r_sw hV (pc' := 343) rfl (by decide) (by rw [c3]; rfl) ?_
    by_cases hno : sc X.1 (i + 1) = 1 ∧ (abW A).length < 4 ∧ (lwP (abT A) (abS A) 241 0 []).1 = true
    · refine lc_textlaw hV hB h114 (by omega) (by omega) hl hi hI ht hno.1 hno.2.1 hno.2.2 (fun ln m' A' h1 h2 h3 h4 => ?_)
      have hlen' : (shL X.2.2.1 ln).length = X.2.2.1.length + 2 := by unfold shL; simp
      exact K _ _ m' A' o5 o6 ((hB.app _).app _) (by omega) (by omega) (by omega) ⟨h3, h4, h2⟩
    · obtain ⟨A', hA', hb⟩ := op_text_no (d := 739) hB hw2 hfv hI ht (S3 (i + 1)) hno
      exact lc_text hV hB hw2 hl hi hb (fun m' c w => Ks m' A' c w hA')
  by_cases c4 : c = 4
  · refine r_sw hV (pc' := 368) rfl (by decide) (by rw [c4]; rfl) ?_
    exact lc_rule hV hB hw2 hl hi (op_rule (d := 779) (x := (sc X.1 (i + 1))) hB hI (S3 _)) (fun m' c w => Ks m' A c w hAu)
  by_cases c5 : c = 5
  · refine r_sw hV (pc' := 393) rfl (by decide) (by rw [c5]; rfl) ?_
    exact lc_bump hV hB hw2 hl hi (op_bump (d := 779) (x := (sc X.1 (i + 1))) (y := (sc X.1 (i + 2))) hB hI (S3 _) (S3 _)) (fun m' c w => Ks m' A c w hAu)
  by_cases c6 : c = 6
  · refine r_sw hV (pc' := 430) rfl (by decide) (by rw [c6]; rfl) ?_
    refine lc_member hL hB (by omega) (by omega) hl hi hI (fun sh' n' m' o5 o6 hs hc hm => ?_)
    rcases hs with ⟨e1, e2⟩ | ⟨e1, e2⟩
    · rw [e1, e2] at hc ⊢
      exact K X.2.2.1 X.2.2.2 m' A o5 o6 hB h114 (by omega) (by omega) ⟨hc, hm, hAu⟩
    · rw [e1, e2] at hc ⊢
      have hlen' : (X.2.2.1 ++ [.inr (.inr ())] : List Sh).length = X.2.2.1.length + 1 := by simp
      exact K _ _ m' A o5 o6 (hB.app _) (by omega) (by omega) (by omega) ⟨hc, hm, hAu⟩
  by_cases c7 : c = 7
  · refine r_sw hV (pc' := 498) rfl (by decide) (by rw [c7]; rfl) ?_
    obtain ⟨A', hA', hb⟩ := op_law (d := 779) (x := (sc X.1 (i + 1))) hB hI ht (S3 _)
    exact lc_law hV hB hw2 hl hi hb (fun m' c w => Ks m' A' c w hA')
  by_cases c8 : c = 8
  · refine r_sw hV (pc' := 523) rfl (by decide) (by rw [c8]; rfl) ?_
    exact lc_sum hV hB hw2 hl hi (op_sum (d := 779) hlaw hB hI) (fun m' c w => Ks m' A c w hAu)
  by_cases c9 : c = 9
  · refine r_sw hV (pc' := 536) rfl (by decide) (by rw [c9]; rfl) ?_
    obtain ⟨A', hA', hb⟩ := op_lean (d := 779) (x := (sc X.1 (i + 1))) (y := (sc X.1 (i + 2))) hB hI ht (S3 _) (S3 _)
    exact lc_lean hV hB hw2 hl hi hb (fun m' c w => Ks m' A' c w hA')
  by_cases c10 : c = 10
  · refine r_sw hV (pc' := 573) rfl (by decide) (by rw [c10]; rfl) ?_
    obtain ⟨A', hA', hb⟩ := op_change (d := 779) (x := (sc X.1 (i + 1))) (y := (sc X.1 (i + 2))) hB hI ht (S3 _) (S3 _)
    exact lc_change hV hB hw2 hl hi hb (fun m' c w => Ks m' A' c w hA')
  by_cases c11 : c = 11
  · refine r_sw hV (pc' := 610) rfl (by decide) (by rw [c11]; rfl) ?_
    obtain ⟨A', hA', hb⟩ := op_heel (d := 779) (x := (sc X.1 (i + 1))) hB hI ht (S3 _)
    exact lc_heel hV hB hw2 hl hi hb (fun m' c w => Ks m' A' c w hA')
  by_cases c12 : c = 12
  · refine r_sw hV (pc' := 635) rfl (by decide) (by rw [c12]; rfl) ?_
    obtain ⟨A', hA', hb⟩ := op_strew (d := 779) (x := (sc X.1 (i + 1))) hB hI ht (S3 _)
    exact lc_strew hV hB hw2 hl hi hb (fun m' c w => Ks m' A' c w hA')
  by_cases c13 : c = 13
  · refine r_sw hV (pc' := 660) rfl (by decide) (by rw [c13]; rfl) ?_
    obtain ⟨A', hA', hb⟩ := op_rows (d := 779) (x := (sc X.1 (i + 1))) hlaw hB hI ht (S3 _)
    exact lc_rows hV hB hw2 hl hi hb (fun m' c w => Ks m' A' c w hA')
  by_cases c14 : c = 14
  · refine r_sw hV (pc' := 685) rfl (by decide) (by rw [c14]; rfl) ?_
    obtain ⟨A', hA', hb⟩ := op_walk (d := 779) hB hI ht
    exact lc_walk hV hB hw2 hl hi hb (fun m' c w => Ks m' A' c w hA')
  by_cases c15 : c = 15
  · refine r_sw hV (pc' := 698) rfl (by decide) (by rw [c15]; rfl) ?_
    obtain ⟨A', hA', hb⟩ := op_dogs (d := 779) (x := (sc X.1 (i + 1))) hB hI ht (S3 _)
    exact lc_dogs hV hB hw2 hl hi hb (fun m' c w => Ks m' A' c w hA')
  by_cases c16 : c = 16
  · refine r_sw hV (pc' := 723) rfl (by decide) (by rw [c16]; rfl) ?_
    obtain ⟨A', hA', hb⟩ := op_sessions (d := 779) (x := (sc X.1 (i + 1))) (y := (jO (jSl (sc X.1 (i + 2)) 32) (jA (sc X.1 (i + 3)) 4294967295))) hlaw hB hI ht (S3 _)
    exact lc_sessions hV hB hw2 hl hi hb (fun m' c w => Ks m' A' c w hA')
  by_cases c17 : c = 17
  · refine r_sw hV (pc' := 792) rfl (by decide) (by rw [c17]; rfl) ?_
    exact lc_status hV hB hw2 hl hi (op_status (d := 779) (x := (sc X.1 (i + 1))) hB hI (S3 _)) (fun m' c w => Ks m' A c w hAu)
  by_cases c18 : c = 18
  · refine r_sw hV (pc' := 817) rfl (by decide) (by rw [c18]; rfl) ?_
    obtain ⟨A', hA', hb⟩ := op_undo (d := 779) hB hI ht
    exact lc_undo hV hB hw2 hl hi hb (fun m' c w => Ks m' A' c w hA')
  by_cases c19 : c = 19
  · refine r_sw hV (pc' := 830) rfl (by decide) (by rw [c19]; rfl) ?_
    exact lc_log hV hB hw2 hl hi (op_log (d := 779) (x := (sc X.1 (i + 1))) (y := (sc X.1 (i + 2))) hB hI (S3 _) (S3 _)) (fun m' c w => Ks m' A c w hAu)
  by_cases c20 : c = 20
  · refine r_sw hV (pc' := 867) rfl (by decide) (by rw [c20]; rfl) ?_
    exact lc_ends hV hB hw2 hl hi (op_ends (d := 779) (x := (sc X.1 (i + 1))) hlaw hB hI (S3 _)) (fun m' c w => Ks m' A c w hAu)
  by_cases c21 : c = 21
  · refine r_sw hV (pc' := 892) rfl (by decide) (by rw [c21]; rfl) ?_
    exact lc_ahead hV hB hw2 hl hi (op_ahead (d := 779) (x := (sc X.1 (i + 1))) hlaw hB hI (S3 _)) (fun m' c w => Ks m' A c w hAu)
  by_cases c22 : c = 22
  · refine r_sw hV (pc' := 917) rfl (by decide) (by rw [c22]; rfl) ?_
    exact lc_turn hV hB hw2 hl hi (op_turn (d := 779) (x := (sc X.1 (i + 1))) (y := (sc X.1 (i + 2))) hlaw hB hI (S3 _) (S3 _)) (fun m' c w => Ks m' A c w hAu)
  by_cases c23 : c = 23
  · refine r_sw hV (pc' := 954) rfl (by decide) (by rw [c23]; rfl) ?_
    exact lc_seating hV hB hw2 hl hi (op_seating (d := 779) (x := (sc X.1 (i + 1))) (y := (sc X.1 (i + 2))) hlaw hB hI (S3 _) (S3 _)) (fun m' c w => Ks m' A c w hAu)
  by_cases c24 : c = 24
  · refine r_sw hV (pc' := 991) rfl (by decide) (by rw [c24]; rfl) ?_
    exact lc_power hV hB hw2 hl hi (op_power (d := 779) (x := (sc X.1 (i + 1))) hlaw hB hI (S3 _)) (fun m' c w => Ks m' A c w hAu)
  by_cases c25 : c = 25
  · refine r_sw hV (pc' := 1016) rfl (by decide) (by rw [c25]; rfl) ?_
    exact lc_game hV hB hw2 hl hi (op_game (d := 779) (x := (sc X.1 (i + 1))) (y := (sc X.1 (i + 2))) (z := (sc X.1 (i + 3))) (u := (sc X.1 (i + 4))) (v := (sc X.1 (i + 5))) hlaw hB hI (S3 _) (S3 _) (S3 _) (S3 _) (S3 _)) (fun m' c w => Ks m' A c w hAu)
  by_cases c26 : c = 26
  · refine r_sw hV (pc' := 1089) rfl (by decide) (by rw [c26]; rfl) ?_
    exact lc_rests hV hB hw2 hl hi (op_rests (d := 779) (x := (sc X.1 (i + 1))) (y := (sc X.1 (i + 2))) (z := (sc X.1 (i + 3))) hlaw hB hI (S3 _) (S3 _) (S3 _)) (fun m' c w => Ks m' A c w hAu)
  by_cases c27 : c = 27
  · refine r_sw hV (pc' := 1138) rfl (by decide) (by rw [c27]; rfl) ?_
    exact lc_knows hV hB hw2 hl hi (op_knows (d := 779) (x := (sc X.1 (i + 1))) (y := (sc X.1 (i + 2))) hlaw hB hI (S3 _) (S3 _)) (fun m' c w => Ks m' A c w hAu)
  by_cases c28 : c = 28
  · refine r_sw hV (pc' := 1175) rfl (by decide) (by rw [c28]; rfl) ?_
    exact lc_straw hV hB hw2 hl hi (op_straw (d := 779) (x := (sc X.1 (i + 1))) (y := (sc X.1 (i + 2))) hlaw hB hI (S3 _) (S3 _)) (fun m' c w => Ks m' A c w hAu)
  by_cases c29 : c = 29
  · refine r_sw hV (pc' := 1212) rfl (by decide) (by rw [c29]; rfl) ?_
    exact lc_fewest hV hB hw2 hl hi (op_fewest (d := 779) hlaw hB hI) (fun m' c w => Ks m' A c w hAu)
  by_cases c30 : c = 30
  · refine r_sw hV (pc' := 1225) rfl (by decide) (by rw [c30]; rfl) ?_
    obtain ⟨A', hA', hb⟩ := op_seen (d := 779) (x := (sc X.1 (i + 1))) (y := (sc X.1 (i + 2))) (z := (bz (sc X.1 (i + 3)))) hB hI ht (S3 _) (S3 _) (bz_r _)
    exact lc_seen hV hB hw2 hl hi hb (fun m' c w => Ks m' A' c w hA')
  by_cases c31 : c = 31
  · refine r_sw hV (pc' := 1290) rfl (by decide) (by rw [c31]; rfl) ?_
    exact lc_who hV hB hw2 hl hi (op_who (d := 779) (x := (sc X.1 (i + 1))) (y := (sc X.1 (i + 2))) hlaw hB hI (S3 _) (S3 _)) (fun m' c w => Ks m' A c w hAu)
  by_cases c32 : c = 32
  · refine r_sw hV (pc' := 1327) rfl (by decide) (by rw [c32]; rfl) ?_
    exact lc_best hV hB hw2 hl hi (op_best (d := 779) (x := (sc X.1 (i + 1))) hlaw hB hI (S3 _)) (fun m' c w => Ks m' A c w hAu)
  by_cases c33 : c = 33
  · refine r_sw hV (pc' := 1352) rfl (by decide) (by rw [c33]; rfl) ?_
    exact lc_odds hV hB hw2 hl hi (op_odds (d := 779) (x := (sc X.1 (i + 1))) (y := (sc X.1 (i + 2))) hlaw hB hI (S3 _) (S3 _)) (fun m' c w => Ks m' A c w hAu)
  by_cases c34 : c = 34
  · refine r_sw hV (pc' := 1389) rfl (by decide) (by rw [c34]; rfl) ?_
    exact lc_shares hV hB hw2 hl hi (op_shares (d := 779) (x := (sc X.1 (i + 1))) (y := (sc X.1 (i + 2))) hlaw hB hI (S3 _) (S3 _)) (fun m' c w => Ks m' A c w hAu)
  by_cases c35 : c = 35
  · refine r_sw hV (pc' := 1426) rfl (by decide) (by rw [c35]; rfl) ?_
    exact lc_most hV hB hw2 hl hi (op_most (d := 779) (x := (sc X.1 (i + 1))) hlaw hB hI (S3 _)) (fun m' c w => Ks m' A c w hAu)
  by_cases c36 : c = 36
  · refine r_sw hV (pc' := 1451) rfl (by decide) (by rw [c36]; rfl) ?_
    exact lc_stays hV hB hw2 hl hi (op_stays (d := 779) (x := (sc X.1 (i + 1))) hlaw hB hI (S3 _)) (fun m' c w => Ks m' A c w hAu)
  by_cases c37 : c = 37
  · refine r_sw hV (pc' := 1476) rfl (by decide) (by rw [c37]; rfl) ?_
    exact lc_met hV hB hw2 hl hi (op_met (d := 779) hlaw hB hI) (fun m' c w => Ks m' A c w hAu)
  by_cases c38 : c = 38
  · refine r_sw hV (pc' := 1489) rfl (by decide) (by rw [c38]; rfl) ?_
    obtain ⟨A', hA', hb⟩ := op_image (d := 779) hB hI ht
    exact lc_image hV hB hw2 hl hi hb (fun m' c w => Ks m' A' c w hA')
  by_cases c39 : c = 39
  · refine r_sw hV (pc' := 1502) rfl (by decide) (by rw [c39]; rfl) ?_
    obtain ⟨A', hA', hb⟩ := op_back (d := 779) hB hI ht
    exact lc_back hV hB hw2 hl hi hb (fun m' c w => Ks m' A' c w hA')
  by_cases c40 : c = 40
  · refine r_sw hV (pc' := 1515) rfl (by decide) (by rw [c40]; rfl) ?_
    exact lc_count hV hB hw2 hl hi (op_count (d := 779) (x := (sc X.1 (i + 1))) hB hI (S3 _)) (fun m' c w => Ks m' A c w hAu)
  refine r_sw hV (pc' := 1540) rfl (by decide) (sw_tab hc (by omega) (by decide)) ?_
  exact Ks m A hI.1.up hI.2.1 hAu
theorem law_loop {xs : List Int32} {fv : Value} {V : aS → Prop} (hL : LawR xs fv V) (hl : xs.length ≤ 3072) (hfv : fv = .null ∨ fv = .ref (aK + 9)) : ∀ (k c : Nat) (sh : List Sh) (n : Nat) (m : Mm) (A : Ab) (o5 o6 : Option Value), c + k = 513 → Bsh sh → 114 ≤ sh.length → sh.length ≤ 114 + 2 * c → n ≤ 19430 + 241 * c → InvA (xs, fv, sh, n) m A (c : Int) → V (23, lL (6 * (c : Int)) o5 o6, [], Wd sh m, n) := by
  have hV := hL.1
  intro k
  induction k with
  | zero =>
    intro c sh n m A o5 o6 hc hB h114 h1 h2 hI
    refine r_iload hV rfl rfl (pc' := 25) rfl ?_
    refine r_aload_n hV rfl rfl (pc' := 26) rfl ?_
    refine r_ealen hV rfl (Wd_none (show sh.length ≤ 1000000 by omega)) rfl (pc' := 27) rfl ?_
    rw [← Int32.ofInt_eq_ofNat]
    refine tt_bipush hV rfl (by decide) (pc' := 29) rfl ?_
    refine tt_isub hV rfl (pc' := 30) rfl ?_
    refine tt_icmp_gt hV rfl (by omega) (by omega) (pt := 1546) (by decide) (pf := 33) rfl (fun h => ?_) (fun h => absurd (show (xs.length : Int) - 6 < 6 * (c : Int) by omega) h)
    refine tt_iconst hV rfl (pc' := 1547) rfl ?_
    exact hL.2.1 1547 _ _ _ rfl
  | succ k ih =>
    intro c sh n m A o5 o6 hc hB h114 h1 h2 hI
    refine r_iload hV rfl rfl (pc' := 25) rfl ?_
    refine r_aload_n hV rfl rfl (pc' := 26) rfl ?_
    refine r_ealen hV rfl (Wd_none (show sh.length ≤ 1000000 by omega)) rfl (pc' := 27) rfl ?_
    rw [← Int32.ofInt_eq_ofNat]
    refine tt_bipush hV rfl (by decide) (pc' := 29) rfl ?_
    refine tt_isub hV rfl (pc' := 30) rfl ?_
    refine tt_icmp_gt hV rfl (by omega) (by omega) (pt := 1546) (by decide) (pf := 33) rfl (fun h => ?_) (fun h => ?_)
    · refine tt_iconst hV rfl (pc' := 1547) rfl ?_
      exact hL.2.1 1547 _ _ _ rfl
    · refine s_rd0 (X := (xs, fv, sh, n)) hV rfl rfl rfl (pc' := 37) rfl (by omega) hl (show 0 ≤ 6 * (c : Int) ∧ 6 * (c : Int) < (xs.length : Int) by omega) ?_
      refine tt_bipush hV rfl (by decide) (pc' := 39) rfl ?_
      refine tt_iand hV rfl (pc' := 40) rfl ?_
      refine law_sw (X := (xs, fv, sh, n)) hL hB hfv h114 (show sh.length ≤ 500000 by omega) (show n ≤ 6000000 by omega) hl (show 0 ≤ 6 * (c : Int) ∧ 6 * (c : Int) + 5 < (xs.length : Int) by omega) hI (by omega) (fun sh' n' m' A' o5 o6 g1 g2 g3 g4 g5 => ?_) (i32R _)
      have g3' : sh'.length ≤ sh.length + 2 := g3
      have g4' : n' ≤ n + 241 := g4
      have e : ((c + 1 : Nat) : Int) = (c : Int) + 1 := by omega
      refine tz_iinc4 hV rfl rfl (y := 6 * ((c + 1 : Nat) : Int)) (by omega) (pc' := 1543) rfl ?_
      refine r_goto hV rfl (pc' := 23) (by decide) ?_
      exact ih (c + 1) sh' n' m' A' o5 o6 (by omega) g1 g2 (by omega) (by omega) (by rw [e]; exact g5)
theorem law_pure (xs : List Int32) (fv : Value) (hl : xs.length ≤ 3072) (hfv : fv = .null ∨ fv = .ref (aK + 9)) (V : aS → Prop) (hL : LawR xs fv V) : V (0, aEnt 7 [.ref aK], [], [], 0) :=
  law_start hL.1 (law_loop hL hl hfv 513 0 bs 19430 m0 A0 none none rfl (fun _ _ h => h) (by decide) (by decide) (by decide) inv0)
end LLoop
