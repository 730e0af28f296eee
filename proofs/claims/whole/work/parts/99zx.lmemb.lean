/-! ===== the law's own loop ===== -/
section LMemb
set_option maxRecDepth 100000
variable {X : Cx} {V : aS → Prop} {m : Mm} {A : Ab} {t : Int} {o5 o6 : Option Value}
theorem lc_member (hL : LawR X.1 X.2.1 V) (hB : Bsh X.2.2.1) (hw : X.2.2.1.length + 1 ≤ 600000) (hn : X.2.2.2 + 6 ≤ 7000000) (hl : X.1.length ≤ 3072) {i : Int} (hi : 0 ≤ i ∧ i + 5 < X.1.length) (hI : InvA X m A t) (K : ∀ (sh' : List Sh) (n' : Nat) (m' : Mm) (o5 o6 : Option Value), (sh' = X.2.2.1 ∧ n' = X.2.2.2 ∨ sh' = X.2.2.1 ++ [.inr (.inr ())] ∧ n' = X.2.2.2 + 6) → CW (X.1, X.2.1, sh', n') m' A (t + 1) → MW m' A → V (1540, lL i o5 o6, [], Wd sh' m', n')) : V (430, lL i o5 o6, [], Wd X.2.2.1 m, X.2.2.2) := by
  have hV := hL.1
  have hx : R3 (sc X.1 (i + 1)) := sc_r _ _
  have hy : R3 (sc X.1 (i + 2)) := sc_r _ _
  refine r_aload_n hV rfl rfl (pc' := 431) rfl ?_
  refine s_rd hV 1 rfl rfl rfl rfl rfl (by omega) hl (by omega) (pc' := 437) rfl ?_
  refine s_rd hV 2 rfl rfl rfl rfl rfl (by omega) hl (by omega) (pc' := 443) rfl ?_
  refine r_aload_n hV rfl rfl (pc' := 444) rfl ?_
  by_cases hb : sc X.1 (i + 1) < 0 ∨ kNm (abK A) ≤ sc X.1 (i + 1) ∨ sc X.1 (i + 2) < 0 ∨ 6 < sc X.1 (i + 2)
  · refine hL.2.2.2 444 0 113 (Int32.ofInt (sc X.1 (i + 1))) (Int32.ofInt (sc X.1 (i + 2))) (lL i o5 o6) [some (.ref 0), some (vI (sc X.1 (i + 1))), some (vI (sc X.1 (i + 2)))] [] _ (Wd X.2.2.1 m) X.2.2.2 rfl rfl rfl (Nat.le_of_ble_eq_true rfl) (by rw [Wd_len]; exact hw) hn (Wd_obj (hB 0 _ rfl)) (memX_g (d := 796) hB hI hx hy hb) ?_
    have ew : Wd X.2.2.1 m ++ [none] = Wd (X.2.2.1 ++ [.inr (.inr ())]) m := by
      rw [Wd_app]
      rfl
    rw [ew]
    have hB' : Bsh (X.2.2.1 ++ [.inr (.inr ())]) := hB.app _
    have hlen' : (X.2.2.1 ++ [.inr (.inr ())] : List Sh).length = X.2.2.1.length + 1 := by simp
    have hI' : InvA (X.1, X.2.1, X.2.2.1 ++ [.inr (.inr ())], X.2.2.2 + 6) m A t := ⟨cw_app hI.1 _ _, hI.2.1, hI.2.2⟩
    refine r_istore hV rfl (Nat.le_of_ble_eq_true rfl) rfl (pc' := 449) rfl ?_
    refine r_aload_n hV rfl rfl (pc' := 450) rfl ?_
    refine s_rd hV (o5 := some (.int 1)) 1 rfl rfl rfl rfl rfl (by omega) hl (by omega) (pc' := 456) rfl ?_
    refine s_rd hV (o5 := some (.int 1)) 2 rfl rfl rfl rfl rfl (by omega) hl (by omega) (pc' := 462) rfl ?_
    obtain ⟨v, m2, ⟨e, c, w, e0⟩, r⟩ := memX_m (X := (X.1, X.2.1, X.2.2.1 ++ [.inr (.inr ())], X.2.2.2 + 6)) (d := 779) (Q := fun v m2 => v = 0 ∧ CW (X.1, X.2.1, X.2.2.1 ++ [.inr (.inr ())], X.2.2.2 + 6) m2 A (t + 1) ∧ MW m2 A ∧ m2 83 0 = 1) hB' hI' hx hy hb (fun c w => ⟨rfl, c, w, up_same _ _ _ _⟩)
    refine tt_cv2I hV rfl rfl rfl (Wd_obj (hB' 83 _ rfl)) (Nat.le_of_ble_eq_true rfl) (Nat.le_of_ble_eq_true rfl) rfl r (pc' := 465) rfl ?_
    refine r_istore hV rfl (Nat.le_of_ble_eq_true rfl) rfl (pc' := 467) rfl ?_
    refine r_aload_n hV rfl rfl (pc' := 468) rfl ?_
    obtain ⟨v3, m3, ⟨e3, e4⟩, r3⟩ := M_thrownw (X := (X.1, X.2.1, X.2.2.1 ++ [.inr (.inr ())], X.2.2.2 + 6)) (d := 799) (m := m2) (Q := fun v m' => v = 1 ∧ m' = m2) hB' ⟨e0, rfl⟩
    rw [e3, e4] at r3
    refine tt_cv0I hV rfl rfl rfl (Wd_obj (hB' 83 _ rfl)) (Nat.le_of_ble_eq_true rfl) (Nat.le_of_ble_eq_true rfl) rfl r3 (pc' := 471) rfl ?_
    refine r_iload hV rfl rfl (pc' := 473) rfl ?_
    refine r_icmp_eq hV rfl (pt := 478) (by decide) (pf := 476) rfl (fun _ => ?_) (fun h => absurd (by decide) h)
    refine r_iload hV rfl rfl (pc' := 480) rfl ?_
    refine r_if_ne hV rfl (pt := 495) (by decide) (pf := 483) rfl (fun _ => ?_) (fun h => absurd (by decide) h)
    refine r_goto hV rfl (pc' := 1540) (by decide) ?_
    exact K _ _ m2 _ _ (Or.inr ⟨rfl, rfl⟩) c w
  · have hx' : 0 ≤ sc X.1 (i + 1) ∧ sc X.1 (i + 1) < kNm (abK A) := by omega
    have hy' : 0 ≤ sc X.1 (i + 2) ∧ sc X.1 (i + 2) ≤ 6 := by omega
    obtain ⟨v, m1, ⟨hv, c1, w1⟩, r1⟩ := mem_V (d := 778) (Q := fun v m1 => v = mbF A (sc X.1 (i + 1)) (sc X.1 (i + 2)) ∧ CW X m1 A (t + 1) ∧ MW m1 A) hlaw hB hI hx' hy' (fun m1 c w => ⟨rfl, c, w⟩)
    obtain ⟨z, hz⟩ : ∃ z, z = (Int32.ofInt v).toInt := ⟨_, rfl⟩
    have hzr : -2147483648 ≤ z ∧ z < 2147483648 := by rw [hz]; exact i32R _
    have hzv : Int32.ofInt z = Int32.ofInt v := by rw [hz, Int32.ofInt_toInt]
    have hset : (Wd X.2.2.1 m1).set 113 (some (.inl (.long, .inr (.inl [(Int32.ofInt v).toInt64])))) = Wd X.2.2.1 (up m1 113 0 z) := by
      refine Wd_set (hB 113 _ rfl) ?_ (fun b hb => up_off hb)
      rw [← hzv, i2l_e hzr]
      show (some (.inl (.long, .inr (.inl [Int64.ofInt z]))) : Option aC) = some (.inl (.long, .inr (.inl [Int64.ofInt (up m1 113 0 z 113 ((0 : Nat) : Int))])))
      rw [show up m1 113 0 z 113 ((0 : Nat) : Int) = z from up_same _ _ _ _]
    refine hL.2.2.1 444 0 113 (Int32.ofInt (sc X.1 (i + 1))) (Int32.ofInt (sc X.1 (i + 2))) (Int32.ofInt v) (Int64.ofInt (m1 113 ((0 : Nat) : Int))) (lL i o5 o6) [] _ (Wd X.2.2.1 m) (Wd X.2.2.1 m1) X.2.2.2 X.2.2.2 rfl rfl (Nat.le_of_ble_eq_true rfl) (by rw [Wd_len]; omega) (by omega) (Wd_obj (hB 0 _ rfl)) (Wd_get (hB 113 _ rfl)) r1 ?_
    rw [hset]
    refine r_istore hV rfl (Nat.le_of_ble_eq_true rfl) rfl (pc' := 449) rfl ?_
    refine r_aload_n hV rfl rfl (pc' := 450) rfl ?_
    refine s_rd hV (o5 := some (.int 0)) 1 rfl rfl rfl rfl rfl (by omega) hl (by omega) (pc' := 456) rfl ?_
    refine s_rd hV (o5 := some (.int 0)) 2 rfl rfl rfl rfl rfl (by omega) hl (by omega) (pc' := 462) rfl ?_
    obtain ⟨v', m2, ⟨e, e0, c2, w2, e113⟩, r2⟩ := mem_M (d := 779) hlaw hB hI hx' hy' (w1.rg (fun a h1 h2 => up_off (by omega)) : MW (up m1 113 0 z) A) (cw_o113 c1)
    have evz : Int32.ofInt v' = Int32.ofInt z := by rw [e, ← hv, hzv]
    have r2' : Ru (gP X.1 X.2.1) (779 + 20) 226 (some (vI z), Wd X.2.2.1 m2, X.2.2.2) (0, [some (.ref 83), some (vI (sc X.1 (i + 1))), some (vI (sc X.1 (i + 2)))], [], Wd X.2.2.1 (up m1 113 0 z), X.2.2.2) := by
      show Ru _ _ _ (some (.int (Int32.ofInt z)), _, _) _
      rw [← evz]
      exact r2
    refine tt_cv2I hV rfl rfl rfl (Wd_obj (hB 83 _ rfl)) (Nat.le_of_ble_eq_true rfl) (Nat.le_of_ble_eq_true rfl) rfl r2' (pc' := 465) rfl ?_
    refine r_istore hV rfl (Nat.le_of_ble_eq_true rfl) rfl (pc' := 467) rfl ?_
    refine r_aload_n hV rfl rfl (pc' := 468) rfl ?_
    obtain ⟨v3, m3, ⟨e3, e4⟩, r3⟩ := M_thrownw (X := X) (d := 799) (m := m2) (Q := fun v m' => v = 0 ∧ m' = m2) hB ⟨e0, rfl⟩
    rw [e3, e4] at r3
    refine tt_cv0I hV rfl rfl rfl (Wd_obj (hB 83 _ rfl)) (Nat.le_of_ble_eq_true rfl) (Nat.le_of_ble_eq_true rfl) rfl r3 (pc' := 471) rfl ?_
    refine r_iload hV rfl rfl (pc' := 473) rfl ?_
    refine r_icmp_eq hV rfl (pt := 478) (by decide) (pf := 476) rfl (fun _ => ?_) (fun h => absurd (by decide) h)
    refine r_iload hV rfl rfl (pc' := 480) rfl ?_
    refine r_if_ne hV rfl (pt := 495) (by decide) (pf := 483) rfl (fun h => absurd (by decide) h) (fun _ => ?_)
    refine r_aload_n hV rfl rfl (pc' := 484) rfl ?_
    refine tt_iconst hV rfl (pc' := 485) rfl ?_
    refine tt_lald hV rfl (hB 113 _ rfl) (by decide) (by decide) (pc' := 486) rfl ?_
    rw [e113, up_same]
    refine r_iload hV rfl rfl (pc' := 488) rfl ?_
    refine tt_i2l hV rfl hzr (pc' := 489) rfl ?_
    refine tt_lcmp hV rfl (by omega) (by omega) (pc' := 490) rfl ?_
    rw [if_neg (by omega), if_pos rfl]
    refine tt_if_eq hV rfl (by decide) (pt := 495) (by decide) (pf := 493) rfl (fun _ => ?_) (fun h => absurd rfl h)
    refine r_goto hV rfl (pc' := 1540) (by decide) ?_
    exact K _ _ m2 _ _ (Or.inl ⟨rfl, rfl⟩) c2 w2
theorem lc_textlaw (hV : Clo (gP X.1 X.2.1) 800 0 7 false V) (hB : Bsh X.2.2.1) (h114 : 114 ≤ X.2.2.1.length) (hw : X.2.2.1.length + 2 ≤ 600000) (hn : X.2.2.2 + 241 ≤ 7000000) (hl : X.1.length ≤ 3072) {i : Int} (hi : 0 ≤ i ∧ i + 5 < X.1.length) (hI : InvA X m A t) (ht : t + 1 ≤ 1000) (h1 : sc X.1 (i + 1) = 1) (hl4 : (abW A).length < 4) (hgo : (lwP (abT A) (abS A) 241 0 []).1 = true) (K : ∀ (ln : Nat) (m' : Mm) (A' : Ab), ln ≤ 240 → AOk A' (t + 1) → CW (X.1, X.2.1, shL X.2.2.1 ln, X.2.2.2 + 1 + ln) m' A' (t + 1) → MW m' A' → V (1540, lL i o5 o6, [], Wd (shL X.2.2.1 ln) m', X.2.2.2 + 1 + ln)) : V (343, lL i o5 o6, [], Wd X.2.2.1 m, X.2.2.2) := by
  obtain ⟨ln, m1, A', hln, hA', r1, ⟨v', m2, ⟨e, c, w⟩, r2⟩⟩ := op_text_law (d := 739) hB (by omega) hI ht h114 (by omega) hn hl4 hgo
  have hB' : Bsh (shL X.2.2.1 ln) := (hB.app _).app _
  have hlen' : (shL X.2.2.1 ln).length = X.2.2.1.length + 2 := by unfold shL; simp
  rw [e] at r2
  refine r_aload_n hV rfl rfl (pc' := 344) rfl ?_
  refine s_rd hV 1 rfl rfl rfl rfl rfl (by omega) hl (by omega) (pc' := 350) rfl ?_
  rw [h1]
  refine tt_cv1I hV rfl rfl rfl (Wd_obj (hB 0 _ rfl)) (Nat.le_of_ble_eq_true rfl) (Nat.le_of_ble_eq_true rfl) rfl r1 (pc' := 353) rfl ?_
  refine r_aload_n hV rfl rfl (pc' := 354) rfl ?_
  refine s_rd hV 1 rfl rfl rfl rfl rfl (by omega) hl (by omega) (pc' := 360) rfl ?_
  rw [h1]
  refine tt_cv1I hV rfl rfl rfl (Wd_obj (hB' 83 _ rfl)) (Nat.le_of_ble_eq_true rfl) (Nat.le_of_ble_eq_true rfl) rfl r2 (pc' := 363) rfl ?_
  exact r_icmp_eq hV rfl (pt := 1540) (by decide) (pf := 366) rfl (fun _ => K ln m2 A' hln hA' c w) (fun h => absurd rfl h)
end LMemb
