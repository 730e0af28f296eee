/-! ===== the law's own cases ===== -/
section LCases
set_option maxRecDepth 100000
variable {X : Cx} {V : aS → Prop} {m : Mm} {A : Ab} {t : Int} {o5 o6 : Option Value}
theorem lc_feed (hV : Clo (gP X.1 X.2.1) 800 0 7 false V) (hB : Bsh X.2.2.1) (hw : X.2.2.1.length ≤ 1000000) (hl : X.1.length ≤ 3072) {i : Int} (hi : 0 ≤ i ∧ i + 5 < X.1.length) {A' : Ab} (hb : Bth X A' t (V_feed X (779 + 20) (sc X.1 (i + 1)) (sc X.1 (i + 2)) (sc X.1 (i + 3)) (sc X.1 (i + 4)) (sc X.1 (i + 5))) (M_feed X (779 + 20) (sc X.1 (i + 1)) (sc X.1 (i + 2)) (sc X.1 (i + 3)) (sc X.1 (i + 4)) (sc X.1 (i + 5))) m) (K : ∀ m', CW X m' A' (t + 1) → MW m' A' → V (1540, lL i o5 o6, [], Wd X.2.2.1 m', X.2.2.2)) : V (220, lL i o5 o6, [], Wd X.2.2.1 m, X.2.2.2) := by
  obtain ⟨v, m1, ⟨v', m2, ⟨e, c, w⟩, r2⟩, r1⟩ := hb
  rw [e] at r2
  refine r_aload_n hV rfl rfl (pc' := 221) rfl ?_
  refine s_rd hV 1 rfl rfl rfl rfl rfl hw hl (by omega) (pc' := 227) rfl ?_
  refine s_rd hV 2 rfl rfl rfl rfl rfl hw hl (by omega) (pc' := 233) rfl ?_
  refine s_rd hV 3 rfl rfl rfl rfl rfl hw hl (by omega) (pc' := 239) rfl ?_
  refine s_rd hV 4 rfl rfl rfl rfl rfl hw hl (by omega) (pc' := 245) rfl ?_
  refine s_rd hV 5 rfl rfl rfl rfl rfl hw hl (by omega) (pc' := 251) rfl ?_
  refine tt_cv5I hV rfl rfl rfl (Wd_obj (hB 0 _ rfl)) (Nat.le_of_ble_eq_true rfl) (Nat.le_of_ble_eq_true rfl) rfl r1 (pc' := 254) rfl ?_
  refine r_aload_n hV rfl rfl (pc' := 255) rfl ?_
  refine s_rd hV 1 rfl rfl rfl rfl rfl hw hl (by omega) (pc' := 261) rfl ?_
  refine s_rd hV 2 rfl rfl rfl rfl rfl hw hl (by omega) (pc' := 267) rfl ?_
  refine s_rd hV 3 rfl rfl rfl rfl rfl hw hl (by omega) (pc' := 273) rfl ?_
  refine s_rd hV 4 rfl rfl rfl rfl rfl hw hl (by omega) (pc' := 279) rfl ?_
  refine s_rd hV 5 rfl rfl rfl rfl rfl hw hl (by omega) (pc' := 285) rfl ?_
  refine tt_cv5I hV rfl rfl rfl (Wd_obj (hB 83 _ rfl)) (Nat.le_of_ble_eq_true rfl) (Nat.le_of_ble_eq_true rfl) rfl r2 (pc' := 288) rfl ?_
  exact r_icmp_eq hV rfl (pt := 1540) (by decide) (pf := 291) rfl (fun _ => K m2 c w) (fun h => absurd rfl h)
theorem lc_end (hV : Clo (gP X.1 X.2.1) 800 0 7 false V) (hB : Bsh X.2.2.1) (hw : X.2.2.1.length ≤ 1000000) (hl : X.1.length ≤ 3072) {i : Int} (hi : 0 ≤ i ∧ i + 5 < X.1.length) {A' : Ab} (hb : Bth X A' t (V_end X (779 + 20) (sc X.1 (i + 1))) (M_end X (779 + 20) (sc X.1 (i + 1))) m) (K : ∀ m', CW X m' A' (t + 1) → MW m' A' → V (1540, lL i o5 o6, [], Wd X.2.2.1 m', X.2.2.2)) : V (293, lL i o5 o6, [], Wd X.2.2.1 m, X.2.2.2) := by
  obtain ⟨v, m1, ⟨v', m2, ⟨e, c, w⟩, r2⟩, r1⟩ := hb
  rw [e] at r2
  refine r_aload_n hV rfl rfl (pc' := 294) rfl ?_
  refine s_rd hV 1 rfl rfl rfl rfl rfl hw hl (by omega) (pc' := 300) rfl ?_
  refine tt_cv1I hV rfl rfl rfl (Wd_obj (hB 0 _ rfl)) (Nat.le_of_ble_eq_true rfl) (Nat.le_of_ble_eq_true rfl) rfl r1 (pc' := 303) rfl ?_
  refine r_aload_n hV rfl rfl (pc' := 304) rfl ?_
  refine s_rd hV 1 rfl rfl rfl rfl rfl hw hl (by omega) (pc' := 310) rfl ?_
  refine tt_cv1I hV rfl rfl rfl (Wd_obj (hB 83 _ rfl)) (Nat.le_of_ble_eq_true rfl) (Nat.le_of_ble_eq_true rfl) rfl r2 (pc' := 313) rfl ?_
  exact r_icmp_eq hV rfl (pt := 1540) (by decide) (pf := 316) rfl (fun _ => K m2 c w) (fun h => absurd rfl h)
theorem lc_fault (hV : Clo (gP X.1 X.2.1) 800 0 7 false V) (hB : Bsh X.2.2.1) (hw : X.2.2.1.length ≤ 1000000) (hl : X.1.length ≤ 3072) {i : Int} (hi : 0 ≤ i ∧ i + 5 < X.1.length) {A' : Ab} (hb : Bth X A' t (V_fault X (739 + 60) (sc X.1 (i + 1))) (M_fault X (739 + 60) (sc X.1 (i + 1))) m) (K : ∀ m', CW X m' A' (t + 1) → MW m' A' → V (1540, lL i o5 o6, [], Wd X.2.2.1 m', X.2.2.2)) : V (318, lL i o5 o6, [], Wd X.2.2.1 m, X.2.2.2) := by
  obtain ⟨v, m1, ⟨v', m2, ⟨e, c, w⟩, r2⟩, r1⟩ := hb
  rw [e] at r2
  refine r_aload_n hV rfl rfl (pc' := 319) rfl ?_
  refine s_rd hV 1 rfl rfl rfl rfl rfl hw hl (by omega) (pc' := 325) rfl ?_
  refine tt_cv1I hV rfl rfl rfl (Wd_obj (hB 0 _ rfl)) (Nat.le_of_ble_eq_true rfl) (Nat.le_of_ble_eq_true rfl) rfl r1 (pc' := 328) rfl ?_
  refine r_aload_n hV rfl rfl (pc' := 329) rfl ?_
  refine s_rd hV 1 rfl rfl rfl rfl rfl hw hl (by omega) (pc' := 335) rfl ?_
  refine tt_cv1I hV rfl rfl rfl (Wd_obj (hB 83 _ rfl)) (Nat.le_of_ble_eq_true rfl) (Nat.le_of_ble_eq_true rfl) rfl r2 (pc' := 338) rfl ?_
  exact r_icmp_eq hV rfl (pt := 1540) (by decide) (pf := 341) rfl (fun _ => K m2 c w) (fun h => absurd rfl h)
theorem lc_text (hV : Clo (gP X.1 X.2.1) 800 0 7 false V) (hB : Bsh X.2.2.1) (hw : X.2.2.1.length ≤ 1000000) (hl : X.1.length ≤ 3072) {i : Int} (hi : 0 ≤ i ∧ i + 5 < X.1.length) {A' : Ab} (hb : Bth X A' t (V_text X (739 + 60) (sc X.1 (i + 1))) (M_text X (739 + 60) (sc X.1 (i + 1))) m) (K : ∀ m', CW X m' A' (t + 1) → MW m' A' → V (1540, lL i o5 o6, [], Wd X.2.2.1 m', X.2.2.2)) : V (343, lL i o5 o6, [], Wd X.2.2.1 m, X.2.2.2) := by
  obtain ⟨v, m1, ⟨v', m2, ⟨e, c, w⟩, r2⟩, r1⟩ := hb
  rw [e] at r2
  refine r_aload_n hV rfl rfl (pc' := 344) rfl ?_
  refine s_rd hV 1 rfl rfl rfl rfl rfl hw hl (by omega) (pc' := 350) rfl ?_
  refine tt_cv1I hV rfl rfl rfl (Wd_obj (hB 0 _ rfl)) (Nat.le_of_ble_eq_true rfl) (Nat.le_of_ble_eq_true rfl) rfl r1 (pc' := 353) rfl ?_
  refine r_aload_n hV rfl rfl (pc' := 354) rfl ?_
  refine s_rd hV 1 rfl rfl rfl rfl rfl hw hl (by omega) (pc' := 360) rfl ?_
  refine tt_cv1I hV rfl rfl rfl (Wd_obj (hB 83 _ rfl)) (Nat.le_of_ble_eq_true rfl) (Nat.le_of_ble_eq_true rfl) rfl r2 (pc' := 363) rfl ?_
  exact r_icmp_eq hV rfl (pt := 1540) (by decide) (pf := 366) rfl (fun _ => K m2 c w) (fun h => absurd rfl h)
theorem lc_rule (hV : Clo (gP X.1 X.2.1) 800 0 7 false V) (hB : Bsh X.2.2.1) (hw : X.2.2.1.length ≤ 1000000) (hl : X.1.length ≤ 3072) {i : Int} (hi : 0 ≤ i ∧ i + 5 < X.1.length) {A' : Ab} (hb : Bth X A' t (V_rule X (779 + 20) (sc X.1 (i + 1))) (M_rule X (779 + 20) (sc X.1 (i + 1))) m) (K : ∀ m', CW X m' A' (t + 1) → MW m' A' → V (1540, lL i o5 o6, [], Wd X.2.2.1 m', X.2.2.2)) : V (368, lL i o5 o6, [], Wd X.2.2.1 m, X.2.2.2) := by
  obtain ⟨v, m1, ⟨v', m2, ⟨e, c, w⟩, r2⟩, r1⟩ := hb
  rw [e] at r2
  refine r_aload_n hV rfl rfl (pc' := 369) rfl ?_
  refine s_rd hV 1 rfl rfl rfl rfl rfl hw hl (by omega) (pc' := 375) rfl ?_
  refine tt_cv1I hV rfl rfl rfl (Wd_obj (hB 0 _ rfl)) (Nat.le_of_ble_eq_true rfl) (Nat.le_of_ble_eq_true rfl) rfl r1 (pc' := 378) rfl ?_
  refine r_aload_n hV rfl rfl (pc' := 379) rfl ?_
  refine s_rd hV 1 rfl rfl rfl rfl rfl hw hl (by omega) (pc' := 385) rfl ?_
  refine tt_cv1I hV rfl rfl rfl (Wd_obj (hB 83 _ rfl)) (Nat.le_of_ble_eq_true rfl) (Nat.le_of_ble_eq_true rfl) rfl r2 (pc' := 388) rfl ?_
  exact r_icmp_eq hV rfl (pt := 1540) (by decide) (pf := 391) rfl (fun _ => K m2 c w) (fun h => absurd rfl h)
theorem lc_bump (hV : Clo (gP X.1 X.2.1) 800 0 7 false V) (hB : Bsh X.2.2.1) (hw : X.2.2.1.length ≤ 1000000) (hl : X.1.length ≤ 3072) {i : Int} (hi : 0 ≤ i ∧ i + 5 < X.1.length) {A' : Ab} (hb : Bth X A' t (V_bump X (779 + 20) (sc X.1 (i + 1)) (sc X.1 (i + 2))) (M_bump X (779 + 20) (sc X.1 (i + 1)) (sc X.1 (i + 2))) m) (K : ∀ m', CW X m' A' (t + 1) → MW m' A' → V (1540, lL i o5 o6, [], Wd X.2.2.1 m', X.2.2.2)) : V (393, lL i o5 o6, [], Wd X.2.2.1 m, X.2.2.2) := by
  obtain ⟨v, m1, ⟨v', m2, ⟨e, c, w⟩, r2⟩, r1⟩ := hb
  rw [e] at r2
  refine r_aload_n hV rfl rfl (pc' := 394) rfl ?_
  refine s_rd hV 1 rfl rfl rfl rfl rfl hw hl (by omega) (pc' := 400) rfl ?_
  refine s_rd hV 2 rfl rfl rfl rfl rfl hw hl (by omega) (pc' := 406) rfl ?_
  refine tt_cv2I hV rfl rfl rfl (Wd_obj (hB 0 _ rfl)) (Nat.le_of_ble_eq_true rfl) (Nat.le_of_ble_eq_true rfl) rfl r1 (pc' := 409) rfl ?_
  refine r_aload_n hV rfl rfl (pc' := 410) rfl ?_
  refine s_rd hV 1 rfl rfl rfl rfl rfl hw hl (by omega) (pc' := 416) rfl ?_
  refine s_rd hV 2 rfl rfl rfl rfl rfl hw hl (by omega) (pc' := 422) rfl ?_
  refine tt_cv2I hV rfl rfl rfl (Wd_obj (hB 83 _ rfl)) (Nat.le_of_ble_eq_true rfl) (Nat.le_of_ble_eq_true rfl) rfl r2 (pc' := 425) rfl ?_
  exact r_icmp_eq hV rfl (pt := 1540) (by decide) (pf := 428) rfl (fun _ => K m2 c w) (fun h => absurd rfl h)
theorem lc_law (hV : Clo (gP X.1 X.2.1) 800 0 7 false V) (hB : Bsh X.2.2.1) (hw : X.2.2.1.length ≤ 1000000) (hl : X.1.length ≤ 3072) {i : Int} (hi : 0 ≤ i ∧ i + 5 < X.1.length) {A' : Ab} (hb : Bth X A' t (V_law X (779 + 20) (sc X.1 (i + 1))) (M_law X (779 + 20) (sc X.1 (i + 1))) m) (K : ∀ m', CW X m' A' (t + 1) → MW m' A' → V (1540, lL i o5 o6, [], Wd X.2.2.1 m', X.2.2.2)) : V (498, lL i o5 o6, [], Wd X.2.2.1 m, X.2.2.2) := by
  obtain ⟨v, m1, ⟨v', m2, ⟨e, c, w⟩, r2⟩, r1⟩ := hb
  rw [e] at r2
  refine r_aload_n hV rfl rfl (pc' := 499) rfl ?_
  refine s_rd hV 1 rfl rfl rfl rfl rfl hw hl (by omega) (pc' := 505) rfl ?_
  refine tt_cv1I hV rfl rfl rfl (Wd_obj (hB 0 _ rfl)) (Nat.le_of_ble_eq_true rfl) (Nat.le_of_ble_eq_true rfl) rfl r1 (pc' := 508) rfl ?_
  refine r_aload_n hV rfl rfl (pc' := 509) rfl ?_
  refine s_rd hV 1 rfl rfl rfl rfl rfl hw hl (by omega) (pc' := 515) rfl ?_
  refine tt_cv1I hV rfl rfl rfl (Wd_obj (hB 83 _ rfl)) (Nat.le_of_ble_eq_true rfl) (Nat.le_of_ble_eq_true rfl) rfl r2 (pc' := 518) rfl ?_
  exact r_icmp_eq hV rfl (pt := 1540) (by decide) (pf := 521) rfl (fun _ => K m2 c w) (fun h => absurd rfl h)
theorem lc_sum (hV : Clo (gP X.1 X.2.1) 800 0 7 false V) (hB : Bsh X.2.2.1) (hw : X.2.2.1.length ≤ 1000000) (hl : X.1.length ≤ 3072) {i : Int} (hi : 0 ≤ i ∧ i + 5 < X.1.length) {A' : Ab} (hb : Bth X A' t (V_sum X (779 + 20) ) (M_sum X (779 + 20) ) m) (K : ∀ m', CW X m' A' (t + 1) → MW m' A' → V (1540, lL i o5 o6, [], Wd X.2.2.1 m', X.2.2.2)) : V (523, lL i o5 o6, [], Wd X.2.2.1 m, X.2.2.2) := by
  obtain ⟨v, m1, ⟨v', m2, ⟨e, c, w⟩, r2⟩, r1⟩ := hb
  rw [e] at r2
  refine r_aload_n hV rfl rfl (pc' := 524) rfl ?_
  refine tt_cv0I hV rfl rfl rfl (Wd_obj (hB 0 _ rfl)) (Nat.le_of_ble_eq_true rfl) (Nat.le_of_ble_eq_true rfl) rfl r1 (pc' := 527) rfl ?_
  refine r_aload_n hV rfl rfl (pc' := 528) rfl ?_
  refine tt_cv0I hV rfl rfl rfl (Wd_obj (hB 83 _ rfl)) (Nat.le_of_ble_eq_true rfl) (Nat.le_of_ble_eq_true rfl) rfl r2 (pc' := 531) rfl ?_
  exact r_icmp_eq hV rfl (pt := 1540) (by decide) (pf := 534) rfl (fun _ => K m2 c w) (fun h => absurd rfl h)
theorem lc_lean (hV : Clo (gP X.1 X.2.1) 800 0 7 false V) (hB : Bsh X.2.2.1) (hw : X.2.2.1.length ≤ 1000000) (hl : X.1.length ≤ 3072) {i : Int} (hi : 0 ≤ i ∧ i + 5 < X.1.length) {A' : Ab} (hb : Bth X A' t (V_lean X (779 + 20) (sc X.1 (i + 1)) (sc X.1 (i + 2))) (M_lean X (779 + 20) (sc X.1 (i + 1)) (sc X.1 (i + 2))) m) (K : ∀ m', CW X m' A' (t + 1) → MW m' A' → V (1540, lL i o5 o6, [], Wd X.2.2.1 m', X.2.2.2)) : V (536, lL i o5 o6, [], Wd X.2.2.1 m, X.2.2.2) := by
  obtain ⟨v, m1, ⟨v', m2, ⟨e, c, w⟩, r2⟩, r1⟩ := hb
  rw [e] at r2
  refine r_aload_n hV rfl rfl (pc' := 537) rfl ?_
  refine s_rd hV 1 rfl rfl rfl rfl rfl hw hl (by omega) (pc' := 543) rfl ?_
  refine s_rd hV 2 rfl rfl rfl rfl rfl hw hl (by omega) (pc' := 549) rfl ?_
  refine tt_cv2I hV rfl rfl rfl (Wd_obj (hB 0 _ rfl)) (Nat.le_of_ble_eq_true rfl) (Nat.le_of_ble_eq_true rfl) rfl r1 (pc' := 552) rfl ?_
  refine r_aload_n hV rfl rfl (pc' := 553) rfl ?_
  refine s_rd hV 1 rfl rfl rfl rfl rfl hw hl (by omega) (pc' := 559) rfl ?_
  refine s_rd hV 2 rfl rfl rfl rfl rfl hw hl (by omega) (pc' := 565) rfl ?_
  refine tt_cv2I hV rfl rfl rfl (Wd_obj (hB 83 _ rfl)) (Nat.le_of_ble_eq_true rfl) (Nat.le_of_ble_eq_true rfl) rfl r2 (pc' := 568) rfl ?_
  exact r_icmp_eq hV rfl (pt := 1540) (by decide) (pf := 571) rfl (fun _ => K m2 c w) (fun h => absurd rfl h)
theorem lc_change (hV : Clo (gP X.1 X.2.1) 800 0 7 false V) (hB : Bsh X.2.2.1) (hw : X.2.2.1.length ≤ 1000000) (hl : X.1.length ≤ 3072) {i : Int} (hi : 0 ≤ i ∧ i + 5 < X.1.length) {A' : Ab} (hb : Bth X A' t (V_change X (779 + 20) (sc X.1 (i + 1)) (sc X.1 (i + 2))) (M_change X (779 + 20) (sc X.1 (i + 1)) (sc X.1 (i + 2))) m) (K : ∀ m', CW X m' A' (t + 1) → MW m' A' → V (1540, lL i o5 o6, [], Wd X.2.2.1 m', X.2.2.2)) : V (573, lL i o5 o6, [], Wd X.2.2.1 m, X.2.2.2) := by
  obtain ⟨v, m1, ⟨v', m2, ⟨e, c, w⟩, r2⟩, r1⟩ := hb
  rw [e] at r2
  refine r_aload_n hV rfl rfl (pc' := 574) rfl ?_
  refine s_rd hV 1 rfl rfl rfl rfl rfl hw hl (by omega) (pc' := 580) rfl ?_
  refine s_rd hV 2 rfl rfl rfl rfl rfl hw hl (by omega) (pc' := 586) rfl ?_
  refine tt_cv2I hV rfl rfl rfl (Wd_obj (hB 0 _ rfl)) (Nat.le_of_ble_eq_true rfl) (Nat.le_of_ble_eq_true rfl) rfl r1 (pc' := 589) rfl ?_
  refine r_aload_n hV rfl rfl (pc' := 590) rfl ?_
  refine s_rd hV 1 rfl rfl rfl rfl rfl hw hl (by omega) (pc' := 596) rfl ?_
  refine s_rd hV 2 rfl rfl rfl rfl rfl hw hl (by omega) (pc' := 602) rfl ?_
  refine tt_cv2I hV rfl rfl rfl (Wd_obj (hB 83 _ rfl)) (Nat.le_of_ble_eq_true rfl) (Nat.le_of_ble_eq_true rfl) rfl r2 (pc' := 605) rfl ?_
  exact r_icmp_eq hV rfl (pt := 1540) (by decide) (pf := 608) rfl (fun _ => K m2 c w) (fun h => absurd rfl h)
theorem lc_heel (hV : Clo (gP X.1 X.2.1) 800 0 7 false V) (hB : Bsh X.2.2.1) (hw : X.2.2.1.length ≤ 1000000) (hl : X.1.length ≤ 3072) {i : Int} (hi : 0 ≤ i ∧ i + 5 < X.1.length) {A' : Ab} (hb : Bth X A' t (V_heel X (779 + 20) (sc X.1 (i + 1))) (M_heel X (779 + 20) (sc X.1 (i + 1))) m) (K : ∀ m', CW X m' A' (t + 1) → MW m' A' → V (1540, lL i o5 o6, [], Wd X.2.2.1 m', X.2.2.2)) : V (610, lL i o5 o6, [], Wd X.2.2.1 m, X.2.2.2) := by
  obtain ⟨v, m1, ⟨v', m2, ⟨e, c, w⟩, r2⟩, r1⟩ := hb
  rw [e] at r2
  refine r_aload_n hV rfl rfl (pc' := 611) rfl ?_
  refine s_rd hV 1 rfl rfl rfl rfl rfl hw hl (by omega) (pc' := 617) rfl ?_
  refine tt_cv1I hV rfl rfl rfl (Wd_obj (hB 0 _ rfl)) (Nat.le_of_ble_eq_true rfl) (Nat.le_of_ble_eq_true rfl) rfl r1 (pc' := 620) rfl ?_
  refine r_aload_n hV rfl rfl (pc' := 621) rfl ?_
  refine s_rd hV 1 rfl rfl rfl rfl rfl hw hl (by omega) (pc' := 627) rfl ?_
  refine tt_cv1I hV rfl rfl rfl (Wd_obj (hB 83 _ rfl)) (Nat.le_of_ble_eq_true rfl) (Nat.le_of_ble_eq_true rfl) rfl r2 (pc' := 630) rfl ?_
  exact r_icmp_eq hV rfl (pt := 1540) (by decide) (pf := 633) rfl (fun _ => K m2 c w) (fun h => absurd rfl h)
theorem lc_strew (hV : Clo (gP X.1 X.2.1) 800 0 7 false V) (hB : Bsh X.2.2.1) (hw : X.2.2.1.length ≤ 1000000) (hl : X.1.length ≤ 3072) {i : Int} (hi : 0 ≤ i ∧ i + 5 < X.1.length) {A' : Ab} (hb : Bth X A' t (V_strew X (779 + 20) (sc X.1 (i + 1))) (M_strew X (779 + 20) (sc X.1 (i + 1))) m) (K : ∀ m', CW X m' A' (t + 1) → MW m' A' → V (1540, lL i o5 o6, [], Wd X.2.2.1 m', X.2.2.2)) : V (635, lL i o5 o6, [], Wd X.2.2.1 m, X.2.2.2) := by
  obtain ⟨v, m1, ⟨v', m2, ⟨e, c, w⟩, r2⟩, r1⟩ := hb
  rw [e] at r2
  refine r_aload_n hV rfl rfl (pc' := 636) rfl ?_
  refine s_rd hV 1 rfl rfl rfl rfl rfl hw hl (by omega) (pc' := 642) rfl ?_
  refine tt_cv1I hV rfl rfl rfl (Wd_obj (hB 0 _ rfl)) (Nat.le_of_ble_eq_true rfl) (Nat.le_of_ble_eq_true rfl) rfl r1 (pc' := 645) rfl ?_
  refine r_aload_n hV rfl rfl (pc' := 646) rfl ?_
  refine s_rd hV 1 rfl rfl rfl rfl rfl hw hl (by omega) (pc' := 652) rfl ?_
  refine tt_cv1I hV rfl rfl rfl (Wd_obj (hB 83 _ rfl)) (Nat.le_of_ble_eq_true rfl) (Nat.le_of_ble_eq_true rfl) rfl r2 (pc' := 655) rfl ?_
  exact r_icmp_eq hV rfl (pt := 1540) (by decide) (pf := 658) rfl (fun _ => K m2 c w) (fun h => absurd rfl h)
theorem lc_rows (hV : Clo (gP X.1 X.2.1) 800 0 7 false V) (hB : Bsh X.2.2.1) (hw : X.2.2.1.length ≤ 1000000) (hl : X.1.length ≤ 3072) {i : Int} (hi : 0 ≤ i ∧ i + 5 < X.1.length) {A' : Ab} (hb : Bth X A' t (V_rows X (779 + 20) (sc X.1 (i + 1))) (M_rows X (779 + 20) (sc X.1 (i + 1))) m) (K : ∀ m', CW X m' A' (t + 1) → MW m' A' → V (1540, lL i o5 o6, [], Wd X.2.2.1 m', X.2.2.2)) : V (660, lL i o5 o6, [], Wd X.2.2.1 m, X.2.2.2) := by
  obtain ⟨v, m1, ⟨v', m2, ⟨e, c, w⟩, r2⟩, r1⟩ := hb
  rw [e] at r2
  refine r_aload_n hV rfl rfl (pc' := 661) rfl ?_
  refine s_rd hV 1 rfl rfl rfl rfl rfl hw hl (by omega) (pc' := 667) rfl ?_
  refine tt_cv1I hV rfl rfl rfl (Wd_obj (hB 0 _ rfl)) (Nat.le_of_ble_eq_true rfl) (Nat.le_of_ble_eq_true rfl) rfl r1 (pc' := 670) rfl ?_
  refine r_aload_n hV rfl rfl (pc' := 671) rfl ?_
  refine s_rd hV 1 rfl rfl rfl rfl rfl hw hl (by omega) (pc' := 677) rfl ?_
  refine tt_cv1I hV rfl rfl rfl (Wd_obj (hB 83 _ rfl)) (Nat.le_of_ble_eq_true rfl) (Nat.le_of_ble_eq_true rfl) rfl r2 (pc' := 680) rfl ?_
  exact r_icmp_eq hV rfl (pt := 1540) (by decide) (pf := 683) rfl (fun _ => K m2 c w) (fun h => absurd rfl h)
theorem lc_walk (hV : Clo (gP X.1 X.2.1) 800 0 7 false V) (hB : Bsh X.2.2.1) (hw : X.2.2.1.length ≤ 1000000) (hl : X.1.length ≤ 3072) {i : Int} (hi : 0 ≤ i ∧ i + 5 < X.1.length) {A' : Ab} (hb : Bth X A' t (V_walk X (779 + 20) ) (M_walk X (779 + 20) ) m) (K : ∀ m', CW X m' A' (t + 1) → MW m' A' → V (1540, lL i o5 o6, [], Wd X.2.2.1 m', X.2.2.2)) : V (685, lL i o5 o6, [], Wd X.2.2.1 m, X.2.2.2) := by
  obtain ⟨v, m1, ⟨v', m2, ⟨e, c, w⟩, r2⟩, r1⟩ := hb
  rw [e] at r2
  refine r_aload_n hV rfl rfl (pc' := 686) rfl ?_
  refine tt_cv0I hV rfl rfl rfl (Wd_obj (hB 0 _ rfl)) (Nat.le_of_ble_eq_true rfl) (Nat.le_of_ble_eq_true rfl) rfl r1 (pc' := 689) rfl ?_
  refine r_aload_n hV rfl rfl (pc' := 690) rfl ?_
  refine tt_cv0I hV rfl rfl rfl (Wd_obj (hB 83 _ rfl)) (Nat.le_of_ble_eq_true rfl) (Nat.le_of_ble_eq_true rfl) rfl r2 (pc' := 693) rfl ?_
  exact r_icmp_eq hV rfl (pt := 1540) (by decide) (pf := 696) rfl (fun _ => K m2 c w) (fun h => absurd rfl h)
theorem lc_dogs (hV : Clo (gP X.1 X.2.1) 800 0 7 false V) (hB : Bsh X.2.2.1) (hw : X.2.2.1.length ≤ 1000000) (hl : X.1.length ≤ 3072) {i : Int} (hi : 0 ≤ i ∧ i + 5 < X.1.length) {A' : Ab} (hb : Bth X A' t (V_dogs X (779 + 20) (sc X.1 (i + 1))) (M_dogs X (779 + 20) (sc X.1 (i + 1))) m) (K : ∀ m', CW X m' A' (t + 1) → MW m' A' → V (1540, lL i o5 o6, [], Wd X.2.2.1 m', X.2.2.2)) : V (698, lL i o5 o6, [], Wd X.2.2.1 m, X.2.2.2) := by
  obtain ⟨v, m1, ⟨v', m2, ⟨e, c, w⟩, r2⟩, r1⟩ := hb
  rw [e] at r2
  refine r_aload_n hV rfl rfl (pc' := 699) rfl ?_
  refine s_rd hV 1 rfl rfl rfl rfl rfl hw hl (by omega) (pc' := 705) rfl ?_
  refine tt_cv1I hV rfl rfl rfl (Wd_obj (hB 0 _ rfl)) (Nat.le_of_ble_eq_true rfl) (Nat.le_of_ble_eq_true rfl) rfl r1 (pc' := 708) rfl ?_
  refine r_aload_n hV rfl rfl (pc' := 709) rfl ?_
  refine s_rd hV 1 rfl rfl rfl rfl rfl hw hl (by omega) (pc' := 715) rfl ?_
  refine tt_cv1I hV rfl rfl rfl (Wd_obj (hB 83 _ rfl)) (Nat.le_of_ble_eq_true rfl) (Nat.le_of_ble_eq_true rfl) rfl r2 (pc' := 718) rfl ?_
  exact r_icmp_eq hV rfl (pt := 1540) (by decide) (pf := 721) rfl (fun _ => K m2 c w) (fun h => absurd rfl h)
theorem lc_sessions (hV : Clo (gP X.1 X.2.1) 800 0 7 false V) (hB : Bsh X.2.2.1) (hw : X.2.2.1.length ≤ 1000000) (hl : X.1.length ≤ 3072) {i : Int} (hi : 0 ≤ i ∧ i + 5 < X.1.length) {A' : Ab} (hb : Bth X A' t (V_sessions X (779 + 20) (sc X.1 (i + 1)) (jO (jSl (sc X.1 (i + 2)) 32) (jA (sc X.1 (i + 3)) 4294967295))) (M_sessions X (779 + 20) (sc X.1 (i + 1)) (jO (jSl (sc X.1 (i + 2)) 32) (jA (sc X.1 (i + 3)) 4294967295))) m) (K : ∀ m', CW X m' A' (t + 1) → MW m' A' → V (1540, lL i o5 o6, [], Wd X.2.2.1 m', X.2.2.2)) : V (723, lL i o5 o6, [], Wd X.2.2.1 m, X.2.2.2) := by
  obtain ⟨v, m1, ⟨v', m2, ⟨e, c, w⟩, r2⟩, r1⟩ := hb
  rw [e] at r2
  refine r_aload_n hV rfl rfl (pc' := 724) rfl ?_
  refine s_rd hV 1 rfl rfl rfl rfl rfl hw hl (by omega) (pc' := 730) rfl ?_
  refine s_rd hV 2 rfl rfl rfl rfl rfl hw hl (by omega) (pc' := 736) rfl ?_
  refine tt_i2l hV rfl (sc_r _ _) (pc' := 737) rfl ?_
  refine tt_bipush hV rfl (by decide) (pc' := 739) rfl ?_
  refine tt_lshl hV rfl (pc' := 740) rfl ?_
  refine s_rd hV 3 rfl rfl rfl rfl rfl hw hl (by omega) (pc' := 746) rfl ?_
  refine tt_i2l hV rfl (sc_r _ _) (pc' := 747) rfl ?_
  refine r_ldc2 hV rfl rfl (pc' := 750) rfl ?_
  refine tt_land hV rfl (pc' := 751) rfl ?_
  refine tt_lor hV rfl (pc' := 752) rfl ?_
  refine tt_cv2I hV rfl rfl rfl (Wd_obj (hB 0 _ rfl)) (Nat.le_of_ble_eq_true rfl) (Nat.le_of_ble_eq_true rfl) rfl r1 (pc' := 755) rfl ?_
  refine r_aload_n hV rfl rfl (pc' := 756) rfl ?_
  refine s_rd hV 1 rfl rfl rfl rfl rfl hw hl (by omega) (pc' := 762) rfl ?_
  refine s_rd hV 2 rfl rfl rfl rfl rfl hw hl (by omega) (pc' := 768) rfl ?_
  refine tt_i2l hV rfl (sc_r _ _) (pc' := 769) rfl ?_
  refine tt_bipush hV rfl (by decide) (pc' := 771) rfl ?_
  refine tt_lshl hV rfl (pc' := 772) rfl ?_
  refine s_rd hV 3 rfl rfl rfl rfl rfl hw hl (by omega) (pc' := 778) rfl ?_
  refine tt_i2l hV rfl (sc_r _ _) (pc' := 779) rfl ?_
  refine r_ldc2 hV rfl rfl (pc' := 782) rfl ?_
  refine tt_land hV rfl (pc' := 783) rfl ?_
  refine tt_lor hV rfl (pc' := 784) rfl ?_
  refine tt_cv2I hV rfl rfl rfl (Wd_obj (hB 83 _ rfl)) (Nat.le_of_ble_eq_true rfl) (Nat.le_of_ble_eq_true rfl) rfl r2 (pc' := 787) rfl ?_
  exact r_icmp_eq hV rfl (pt := 1540) (by decide) (pf := 790) rfl (fun _ => K m2 c w) (fun h => absurd rfl h)
theorem lc_status (hV : Clo (gP X.1 X.2.1) 800 0 7 false V) (hB : Bsh X.2.2.1) (hw : X.2.2.1.length ≤ 1000000) (hl : X.1.length ≤ 3072) {i : Int} (hi : 0 ≤ i ∧ i + 5 < X.1.length) {A' : Ab} (hb : Bth X A' t (V_status X (779 + 20) (sc X.1 (i + 1))) (M_status X (779 + 20) (sc X.1 (i + 1))) m) (K : ∀ m', CW X m' A' (t + 1) → MW m' A' → V (1540, lL i o5 o6, [], Wd X.2.2.1 m', X.2.2.2)) : V (792, lL i o5 o6, [], Wd X.2.2.1 m, X.2.2.2) := by
  obtain ⟨v, m1, ⟨v', m2, ⟨e, c, w⟩, r2⟩, r1⟩ := hb
  rw [e] at r2
  refine r_aload_n hV rfl rfl (pc' := 793) rfl ?_
  refine s_rd hV 1 rfl rfl rfl rfl rfl hw hl (by omega) (pc' := 799) rfl ?_
  refine tt_cv1I hV rfl rfl rfl (Wd_obj (hB 0 _ rfl)) (Nat.le_of_ble_eq_true rfl) (Nat.le_of_ble_eq_true rfl) rfl r1 (pc' := 802) rfl ?_
  refine r_aload_n hV rfl rfl (pc' := 803) rfl ?_
  refine s_rd hV 1 rfl rfl rfl rfl rfl hw hl (by omega) (pc' := 809) rfl ?_
  refine tt_cv1I hV rfl rfl rfl (Wd_obj (hB 83 _ rfl)) (Nat.le_of_ble_eq_true rfl) (Nat.le_of_ble_eq_true rfl) rfl r2 (pc' := 812) rfl ?_
  exact r_icmp_eq hV rfl (pt := 1540) (by decide) (pf := 815) rfl (fun _ => K m2 c w) (fun h => absurd rfl h)
theorem lc_undo (hV : Clo (gP X.1 X.2.1) 800 0 7 false V) (hB : Bsh X.2.2.1) (hw : X.2.2.1.length ≤ 1000000) (hl : X.1.length ≤ 3072) {i : Int} (hi : 0 ≤ i ∧ i + 5 < X.1.length) {A' : Ab} (hb : Bth X A' t (V_undo X (779 + 20) ) (M_undo X (779 + 20) ) m) (K : ∀ m', CW X m' A' (t + 1) → MW m' A' → V (1540, lL i o5 o6, [], Wd X.2.2.1 m', X.2.2.2)) : V (817, lL i o5 o6, [], Wd X.2.2.1 m, X.2.2.2) := by
  obtain ⟨v, m1, ⟨v', m2, ⟨e, c, w⟩, r2⟩, r1⟩ := hb
  rw [e] at r2
  refine r_aload_n hV rfl rfl (pc' := 818) rfl ?_
  refine tt_cv0I hV rfl rfl rfl (Wd_obj (hB 0 _ rfl)) (Nat.le_of_ble_eq_true rfl) (Nat.le_of_ble_eq_true rfl) rfl r1 (pc' := 821) rfl ?_
  refine r_aload_n hV rfl rfl (pc' := 822) rfl ?_
  refine tt_cv0I hV rfl rfl rfl (Wd_obj (hB 83 _ rfl)) (Nat.le_of_ble_eq_true rfl) (Nat.le_of_ble_eq_true rfl) rfl r2 (pc' := 825) rfl ?_
  exact r_icmp_eq hV rfl (pt := 1540) (by decide) (pf := 828) rfl (fun _ => K m2 c w) (fun h => absurd rfl h)
theorem lc_log (hV : Clo (gP X.1 X.2.1) 800 0 7 false V) (hB : Bsh X.2.2.1) (hw : X.2.2.1.length ≤ 1000000) (hl : X.1.length ≤ 3072) {i : Int} (hi : 0 ≤ i ∧ i + 5 < X.1.length) {A' : Ab} (hb : Bth X A' t (V_log X (779 + 20) (sc X.1 (i + 1)) (sc X.1 (i + 2))) (M_log X (779 + 20) (sc X.1 (i + 1)) (sc X.1 (i + 2))) m) (K : ∀ m', CW X m' A' (t + 1) → MW m' A' → V (1540, lL i o5 o6, [], Wd X.2.2.1 m', X.2.2.2)) : V (830, lL i o5 o6, [], Wd X.2.2.1 m, X.2.2.2) := by
  obtain ⟨v, m1, ⟨v', m2, ⟨e, c, w⟩, r2⟩, r1⟩ := hb
  rw [e] at r2
  refine r_aload_n hV rfl rfl (pc' := 831) rfl ?_
  refine s_rd hV 1 rfl rfl rfl rfl rfl hw hl (by omega) (pc' := 837) rfl ?_
  refine s_rd hV 2 rfl rfl rfl rfl rfl hw hl (by omega) (pc' := 843) rfl ?_
  refine tt_cv2I hV rfl rfl rfl (Wd_obj (hB 0 _ rfl)) (Nat.le_of_ble_eq_true rfl) (Nat.le_of_ble_eq_true rfl) rfl r1 (pc' := 846) rfl ?_
  refine r_aload_n hV rfl rfl (pc' := 847) rfl ?_
  refine s_rd hV 1 rfl rfl rfl rfl rfl hw hl (by omega) (pc' := 853) rfl ?_
  refine s_rd hV 2 rfl rfl rfl rfl rfl hw hl (by omega) (pc' := 859) rfl ?_
  refine tt_cv2I hV rfl rfl rfl (Wd_obj (hB 83 _ rfl)) (Nat.le_of_ble_eq_true rfl) (Nat.le_of_ble_eq_true rfl) rfl r2 (pc' := 862) rfl ?_
  exact r_icmp_eq hV rfl (pt := 1540) (by decide) (pf := 865) rfl (fun _ => K m2 c w) (fun h => absurd rfl h)
theorem lc_ends (hV : Clo (gP X.1 X.2.1) 800 0 7 false V) (hB : Bsh X.2.2.1) (hw : X.2.2.1.length ≤ 1000000) (hl : X.1.length ≤ 3072) {i : Int} (hi : 0 ≤ i ∧ i + 5 < X.1.length) {A' : Ab} (hb : Bth X A' t (V_ends X (779 + 20) (sc X.1 (i + 1))) (M_ends X (779 + 20) (sc X.1 (i + 1))) m) (K : ∀ m', CW X m' A' (t + 1) → MW m' A' → V (1540, lL i o5 o6, [], Wd X.2.2.1 m', X.2.2.2)) : V (867, lL i o5 o6, [], Wd X.2.2.1 m, X.2.2.2) := by
  obtain ⟨v, m1, ⟨v', m2, ⟨e, c, w⟩, r2⟩, r1⟩ := hb
  rw [e] at r2
  refine r_aload_n hV rfl rfl (pc' := 868) rfl ?_
  refine s_rd hV 1 rfl rfl rfl rfl rfl hw hl (by omega) (pc' := 874) rfl ?_
  refine tt_cv1I hV rfl rfl rfl (Wd_obj (hB 0 _ rfl)) (Nat.le_of_ble_eq_true rfl) (Nat.le_of_ble_eq_true rfl) rfl r1 (pc' := 877) rfl ?_
  refine r_aload_n hV rfl rfl (pc' := 878) rfl ?_
  refine s_rd hV 1 rfl rfl rfl rfl rfl hw hl (by omega) (pc' := 884) rfl ?_
  refine tt_cv1I hV rfl rfl rfl (Wd_obj (hB 83 _ rfl)) (Nat.le_of_ble_eq_true rfl) (Nat.le_of_ble_eq_true rfl) rfl r2 (pc' := 887) rfl ?_
  exact r_icmp_eq hV rfl (pt := 1540) (by decide) (pf := 890) rfl (fun _ => K m2 c w) (fun h => absurd rfl h)
theorem lc_ahead (hV : Clo (gP X.1 X.2.1) 800 0 7 false V) (hB : Bsh X.2.2.1) (hw : X.2.2.1.length ≤ 1000000) (hl : X.1.length ≤ 3072) {i : Int} (hi : 0 ≤ i ∧ i + 5 < X.1.length) {A' : Ab} (hb : Bth X A' t (V_ahead X (779 + 20) (sc X.1 (i + 1))) (M_ahead X (779 + 20) (sc X.1 (i + 1))) m) (K : ∀ m', CW X m' A' (t + 1) → MW m' A' → V (1540, lL i o5 o6, [], Wd X.2.2.1 m', X.2.2.2)) : V (892, lL i o5 o6, [], Wd X.2.2.1 m, X.2.2.2) := by
  obtain ⟨v, m1, ⟨v', m2, ⟨e, c, w⟩, r2⟩, r1⟩ := hb
  rw [e] at r2
  refine r_aload_n hV rfl rfl (pc' := 893) rfl ?_
  refine s_rd hV 1 rfl rfl rfl rfl rfl hw hl (by omega) (pc' := 899) rfl ?_
  refine tt_cv1I hV rfl rfl rfl (Wd_obj (hB 0 _ rfl)) (Nat.le_of_ble_eq_true rfl) (Nat.le_of_ble_eq_true rfl) rfl r1 (pc' := 902) rfl ?_
  refine r_aload_n hV rfl rfl (pc' := 903) rfl ?_
  refine s_rd hV 1 rfl rfl rfl rfl rfl hw hl (by omega) (pc' := 909) rfl ?_
  refine tt_cv1I hV rfl rfl rfl (Wd_obj (hB 83 _ rfl)) (Nat.le_of_ble_eq_true rfl) (Nat.le_of_ble_eq_true rfl) rfl r2 (pc' := 912) rfl ?_
  exact r_icmp_eq hV rfl (pt := 1540) (by decide) (pf := 915) rfl (fun _ => K m2 c w) (fun h => absurd rfl h)
theorem lc_turn (hV : Clo (gP X.1 X.2.1) 800 0 7 false V) (hB : Bsh X.2.2.1) (hw : X.2.2.1.length ≤ 1000000) (hl : X.1.length ≤ 3072) {i : Int} (hi : 0 ≤ i ∧ i + 5 < X.1.length) {A' : Ab} (hb : Bth X A' t (V_turn X (779 + 20) (sc X.1 (i + 1)) (sc X.1 (i + 2))) (M_turn X (779 + 20) (sc X.1 (i + 1)) (sc X.1 (i + 2))) m) (K : ∀ m', CW X m' A' (t + 1) → MW m' A' → V (1540, lL i o5 o6, [], Wd X.2.2.1 m', X.2.2.2)) : V (917, lL i o5 o6, [], Wd X.2.2.1 m, X.2.2.2) := by
  obtain ⟨v, m1, ⟨v', m2, ⟨e, c, w⟩, r2⟩, r1⟩ := hb
  rw [e] at r2
  refine r_aload_n hV rfl rfl (pc' := 918) rfl ?_
  refine s_rd hV 1 rfl rfl rfl rfl rfl hw hl (by omega) (pc' := 924) rfl ?_
  refine s_rd hV 2 rfl rfl rfl rfl rfl hw hl (by omega) (pc' := 930) rfl ?_
  refine tt_cv2I hV rfl rfl rfl (Wd_obj (hB 0 _ rfl)) (Nat.le_of_ble_eq_true rfl) (Nat.le_of_ble_eq_true rfl) rfl r1 (pc' := 933) rfl ?_
  refine r_aload_n hV rfl rfl (pc' := 934) rfl ?_
  refine s_rd hV 1 rfl rfl rfl rfl rfl hw hl (by omega) (pc' := 940) rfl ?_
  refine s_rd hV 2 rfl rfl rfl rfl rfl hw hl (by omega) (pc' := 946) rfl ?_
  refine tt_cv2I hV rfl rfl rfl (Wd_obj (hB 83 _ rfl)) (Nat.le_of_ble_eq_true rfl) (Nat.le_of_ble_eq_true rfl) rfl r2 (pc' := 949) rfl ?_
  exact r_icmp_eq hV rfl (pt := 1540) (by decide) (pf := 952) rfl (fun _ => K m2 c w) (fun h => absurd rfl h)
theorem lc_seating (hV : Clo (gP X.1 X.2.1) 800 0 7 false V) (hB : Bsh X.2.2.1) (hw : X.2.2.1.length ≤ 1000000) (hl : X.1.length ≤ 3072) {i : Int} (hi : 0 ≤ i ∧ i + 5 < X.1.length) {A' : Ab} (hb : Bth X A' t (V_seating X (779 + 20) (sc X.1 (i + 1)) (sc X.1 (i + 2))) (M_seating X (779 + 20) (sc X.1 (i + 1)) (sc X.1 (i + 2))) m) (K : ∀ m', CW X m' A' (t + 1) → MW m' A' → V (1540, lL i o5 o6, [], Wd X.2.2.1 m', X.2.2.2)) : V (954, lL i o5 o6, [], Wd X.2.2.1 m, X.2.2.2) := by
  obtain ⟨v, m1, ⟨v', m2, ⟨e, c, w⟩, r2⟩, r1⟩ := hb
  rw [e] at r2
  refine r_aload_n hV rfl rfl (pc' := 955) rfl ?_
  refine s_rd hV 1 rfl rfl rfl rfl rfl hw hl (by omega) (pc' := 961) rfl ?_
  refine s_rd hV 2 rfl rfl rfl rfl rfl hw hl (by omega) (pc' := 967) rfl ?_
  refine tt_cv2I hV rfl rfl rfl (Wd_obj (hB 0 _ rfl)) (Nat.le_of_ble_eq_true rfl) (Nat.le_of_ble_eq_true rfl) rfl r1 (pc' := 970) rfl ?_
  refine r_aload_n hV rfl rfl (pc' := 971) rfl ?_
  refine s_rd hV 1 rfl rfl rfl rfl rfl hw hl (by omega) (pc' := 977) rfl ?_
  refine s_rd hV 2 rfl rfl rfl rfl rfl hw hl (by omega) (pc' := 983) rfl ?_
  refine tt_cv2I hV rfl rfl rfl (Wd_obj (hB 83 _ rfl)) (Nat.le_of_ble_eq_true rfl) (Nat.le_of_ble_eq_true rfl) rfl r2 (pc' := 986) rfl ?_
  exact r_icmp_eq hV rfl (pt := 1540) (by decide) (pf := 989) rfl (fun _ => K m2 c w) (fun h => absurd rfl h)
theorem lc_power (hV : Clo (gP X.1 X.2.1) 800 0 7 false V) (hB : Bsh X.2.2.1) (hw : X.2.2.1.length ≤ 1000000) (hl : X.1.length ≤ 3072) {i : Int} (hi : 0 ≤ i ∧ i + 5 < X.1.length) {A' : Ab} (hb : Bth X A' t (V_power X (779 + 20) (sc X.1 (i + 1))) (M_power X (779 + 20) (sc X.1 (i + 1))) m) (K : ∀ m', CW X m' A' (t + 1) → MW m' A' → V (1540, lL i o5 o6, [], Wd X.2.2.1 m', X.2.2.2)) : V (991, lL i o5 o6, [], Wd X.2.2.1 m, X.2.2.2) := by
  obtain ⟨v, m1, ⟨v', m2, ⟨e, c, w⟩, r2⟩, r1⟩ := hb
  rw [e] at r2
  refine r_aload_n hV rfl rfl (pc' := 992) rfl ?_
  refine s_rd hV 1 rfl rfl rfl rfl rfl hw hl (by omega) (pc' := 998) rfl ?_
  refine tt_cv1I hV rfl rfl rfl (Wd_obj (hB 0 _ rfl)) (Nat.le_of_ble_eq_true rfl) (Nat.le_of_ble_eq_true rfl) rfl r1 (pc' := 1001) rfl ?_
  refine r_aload_n hV rfl rfl (pc' := 1002) rfl ?_
  refine s_rd hV 1 rfl rfl rfl rfl rfl hw hl (by omega) (pc' := 1008) rfl ?_
  refine tt_cv1I hV rfl rfl rfl (Wd_obj (hB 83 _ rfl)) (Nat.le_of_ble_eq_true rfl) (Nat.le_of_ble_eq_true rfl) rfl r2 (pc' := 1011) rfl ?_
  exact r_icmp_eq hV rfl (pt := 1540) (by decide) (pf := 1014) rfl (fun _ => K m2 c w) (fun h => absurd rfl h)
theorem lc_game (hV : Clo (gP X.1 X.2.1) 800 0 7 false V) (hB : Bsh X.2.2.1) (hw : X.2.2.1.length ≤ 1000000) (hl : X.1.length ≤ 3072) {i : Int} (hi : 0 ≤ i ∧ i + 5 < X.1.length) {A' : Ab} (hb : Bth X A' t (V_game X (779 + 20) (sc X.1 (i + 1)) (sc X.1 (i + 2)) (sc X.1 (i + 3)) (sc X.1 (i + 4)) (sc X.1 (i + 5))) (M_game X (779 + 20) (sc X.1 (i + 1)) (sc X.1 (i + 2)) (sc X.1 (i + 3)) (sc X.1 (i + 4)) (sc X.1 (i + 5))) m) (K : ∀ m', CW X m' A' (t + 1) → MW m' A' → V (1540, lL i o5 o6, [], Wd X.2.2.1 m', X.2.2.2)) : V (1016, lL i o5 o6, [], Wd X.2.2.1 m, X.2.2.2) := by
  obtain ⟨v, m1, ⟨v', m2, ⟨e, c, w⟩, r2⟩, r1⟩ := hb
  rw [e] at r2
  refine r_aload_n hV rfl rfl (pc' := 1017) rfl ?_
  refine s_rd hV 1 rfl rfl rfl rfl rfl hw hl (by omega) (pc' := 1023) rfl ?_
  refine s_rd hV 2 rfl rfl rfl rfl rfl hw hl (by omega) (pc' := 1029) rfl ?_
  refine s_rd hV 3 rfl rfl rfl rfl rfl hw hl (by omega) (pc' := 1035) rfl ?_
  refine s_rd hV 4 rfl rfl rfl rfl rfl hw hl (by omega) (pc' := 1041) rfl ?_
  refine s_rd hV 5 rfl rfl rfl rfl rfl hw hl (by omega) (pc' := 1047) rfl ?_
  refine tt_cv5I hV rfl rfl rfl (Wd_obj (hB 0 _ rfl)) (Nat.le_of_ble_eq_true rfl) (Nat.le_of_ble_eq_true rfl) rfl r1 (pc' := 1050) rfl ?_
  refine r_aload_n hV rfl rfl (pc' := 1051) rfl ?_
  refine s_rd hV 1 rfl rfl rfl rfl rfl hw hl (by omega) (pc' := 1057) rfl ?_
  refine s_rd hV 2 rfl rfl rfl rfl rfl hw hl (by omega) (pc' := 1063) rfl ?_
  refine s_rd hV 3 rfl rfl rfl rfl rfl hw hl (by omega) (pc' := 1069) rfl ?_
  refine s_rd hV 4 rfl rfl rfl rfl rfl hw hl (by omega) (pc' := 1075) rfl ?_
  refine s_rd hV 5 rfl rfl rfl rfl rfl hw hl (by omega) (pc' := 1081) rfl ?_
  refine tt_cv5I hV rfl rfl rfl (Wd_obj (hB 83 _ rfl)) (Nat.le_of_ble_eq_true rfl) (Nat.le_of_ble_eq_true rfl) rfl r2 (pc' := 1084) rfl ?_
  exact r_icmp_eq hV rfl (pt := 1540) (by decide) (pf := 1087) rfl (fun _ => K m2 c w) (fun h => absurd rfl h)
theorem lc_rests (hV : Clo (gP X.1 X.2.1) 800 0 7 false V) (hB : Bsh X.2.2.1) (hw : X.2.2.1.length ≤ 1000000) (hl : X.1.length ≤ 3072) {i : Int} (hi : 0 ≤ i ∧ i + 5 < X.1.length) {A' : Ab} (hb : Bth X A' t (V_rests X (779 + 20) (sc X.1 (i + 1)) (sc X.1 (i + 2)) (sc X.1 (i + 3))) (M_rests X (779 + 20) (sc X.1 (i + 1)) (sc X.1 (i + 2)) (sc X.1 (i + 3))) m) (K : ∀ m', CW X m' A' (t + 1) → MW m' A' → V (1540, lL i o5 o6, [], Wd X.2.2.1 m', X.2.2.2)) : V (1089, lL i o5 o6, [], Wd X.2.2.1 m, X.2.2.2) := by
  obtain ⟨v, m1, ⟨v', m2, ⟨e, c, w⟩, r2⟩, r1⟩ := hb
  rw [e] at r2
  refine r_aload_n hV rfl rfl (pc' := 1090) rfl ?_
  refine s_rd hV 1 rfl rfl rfl rfl rfl hw hl (by omega) (pc' := 1096) rfl ?_
  refine s_rd hV 2 rfl rfl rfl rfl rfl hw hl (by omega) (pc' := 1102) rfl ?_
  refine s_rd hV 3 rfl rfl rfl rfl rfl hw hl (by omega) (pc' := 1108) rfl ?_
  refine tt_cv3I hV rfl rfl rfl (Wd_obj (hB 0 _ rfl)) (Nat.le_of_ble_eq_true rfl) (Nat.le_of_ble_eq_true rfl) rfl r1 (pc' := 1111) rfl ?_
  refine r_aload_n hV rfl rfl (pc' := 1112) rfl ?_
  refine s_rd hV 1 rfl rfl rfl rfl rfl hw hl (by omega) (pc' := 1118) rfl ?_
  refine s_rd hV 2 rfl rfl rfl rfl rfl hw hl (by omega) (pc' := 1124) rfl ?_
  refine s_rd hV 3 rfl rfl rfl rfl rfl hw hl (by omega) (pc' := 1130) rfl ?_
  refine tt_cv3I hV rfl rfl rfl (Wd_obj (hB 83 _ rfl)) (Nat.le_of_ble_eq_true rfl) (Nat.le_of_ble_eq_true rfl) rfl r2 (pc' := 1133) rfl ?_
  exact r_icmp_eq hV rfl (pt := 1540) (by decide) (pf := 1136) rfl (fun _ => K m2 c w) (fun h => absurd rfl h)
theorem lc_knows (hV : Clo (gP X.1 X.2.1) 800 0 7 false V) (hB : Bsh X.2.2.1) (hw : X.2.2.1.length ≤ 1000000) (hl : X.1.length ≤ 3072) {i : Int} (hi : 0 ≤ i ∧ i + 5 < X.1.length) {A' : Ab} (hb : Bth X A' t (V_knows X (779 + 20) (sc X.1 (i + 1)) (sc X.1 (i + 2))) (M_knows X (779 + 20) (sc X.1 (i + 1)) (sc X.1 (i + 2))) m) (K : ∀ m', CW X m' A' (t + 1) → MW m' A' → V (1540, lL i o5 o6, [], Wd X.2.2.1 m', X.2.2.2)) : V (1138, lL i o5 o6, [], Wd X.2.2.1 m, X.2.2.2) := by
  obtain ⟨v, m1, ⟨v', m2, ⟨e, c, w⟩, r2⟩, r1⟩ := hb
  rw [e] at r2
  refine r_aload_n hV rfl rfl (pc' := 1139) rfl ?_
  refine s_rd hV 1 rfl rfl rfl rfl rfl hw hl (by omega) (pc' := 1145) rfl ?_
  refine s_rd hV 2 rfl rfl rfl rfl rfl hw hl (by omega) (pc' := 1151) rfl ?_
  refine tt_cv2I hV rfl rfl rfl (Wd_obj (hB 0 _ rfl)) (Nat.le_of_ble_eq_true rfl) (Nat.le_of_ble_eq_true rfl) rfl r1 (pc' := 1154) rfl ?_
  refine r_aload_n hV rfl rfl (pc' := 1155) rfl ?_
  refine s_rd hV 1 rfl rfl rfl rfl rfl hw hl (by omega) (pc' := 1161) rfl ?_
  refine s_rd hV 2 rfl rfl rfl rfl rfl hw hl (by omega) (pc' := 1167) rfl ?_
  refine tt_cv2I hV rfl rfl rfl (Wd_obj (hB 83 _ rfl)) (Nat.le_of_ble_eq_true rfl) (Nat.le_of_ble_eq_true rfl) rfl r2 (pc' := 1170) rfl ?_
  exact r_icmp_eq hV rfl (pt := 1540) (by decide) (pf := 1173) rfl (fun _ => K m2 c w) (fun h => absurd rfl h)
theorem lc_straw (hV : Clo (gP X.1 X.2.1) 800 0 7 false V) (hB : Bsh X.2.2.1) (hw : X.2.2.1.length ≤ 1000000) (hl : X.1.length ≤ 3072) {i : Int} (hi : 0 ≤ i ∧ i + 5 < X.1.length) {A' : Ab} (hb : Bth X A' t (V_straw X (779 + 20) (sc X.1 (i + 1)) (sc X.1 (i + 2))) (M_straw X (779 + 20) (sc X.1 (i + 1)) (sc X.1 (i + 2))) m) (K : ∀ m', CW X m' A' (t + 1) → MW m' A' → V (1540, lL i o5 o6, [], Wd X.2.2.1 m', X.2.2.2)) : V (1175, lL i o5 o6, [], Wd X.2.2.1 m, X.2.2.2) := by
  obtain ⟨v, m1, ⟨v', m2, ⟨e, c, w⟩, r2⟩, r1⟩ := hb
  rw [e] at r2
  refine r_aload_n hV rfl rfl (pc' := 1176) rfl ?_
  refine s_rd hV 1 rfl rfl rfl rfl rfl hw hl (by omega) (pc' := 1182) rfl ?_
  refine s_rd hV 2 rfl rfl rfl rfl rfl hw hl (by omega) (pc' := 1188) rfl ?_
  refine tt_cv2I hV rfl rfl rfl (Wd_obj (hB 0 _ rfl)) (Nat.le_of_ble_eq_true rfl) (Nat.le_of_ble_eq_true rfl) rfl r1 (pc' := 1191) rfl ?_
  refine r_aload_n hV rfl rfl (pc' := 1192) rfl ?_
  refine s_rd hV 1 rfl rfl rfl rfl rfl hw hl (by omega) (pc' := 1198) rfl ?_
  refine s_rd hV 2 rfl rfl rfl rfl rfl hw hl (by omega) (pc' := 1204) rfl ?_
  refine tt_cv2I hV rfl rfl rfl (Wd_obj (hB 83 _ rfl)) (Nat.le_of_ble_eq_true rfl) (Nat.le_of_ble_eq_true rfl) rfl r2 (pc' := 1207) rfl ?_
  exact r_icmp_eq hV rfl (pt := 1540) (by decide) (pf := 1210) rfl (fun _ => K m2 c w) (fun h => absurd rfl h)
theorem lc_fewest (hV : Clo (gP X.1 X.2.1) 800 0 7 false V) (hB : Bsh X.2.2.1) (hw : X.2.2.1.length ≤ 1000000) (hl : X.1.length ≤ 3072) {i : Int} (hi : 0 ≤ i ∧ i + 5 < X.1.length) {A' : Ab} (hb : Bth X A' t (V_fewest X (779 + 20) ) (M_fewest X (779 + 20) ) m) (K : ∀ m', CW X m' A' (t + 1) → MW m' A' → V (1540, lL i o5 o6, [], Wd X.2.2.1 m', X.2.2.2)) : V (1212, lL i o5 o6, [], Wd X.2.2.1 m, X.2.2.2) := by
  obtain ⟨v, m1, ⟨v', m2, ⟨e, c, w⟩, r2⟩, r1⟩ := hb
  rw [e] at r2
  refine r_aload_n hV rfl rfl (pc' := 1213) rfl ?_
  refine tt_cv0I hV rfl rfl rfl (Wd_obj (hB 0 _ rfl)) (Nat.le_of_ble_eq_true rfl) (Nat.le_of_ble_eq_true rfl) rfl r1 (pc' := 1216) rfl ?_
  refine r_aload_n hV rfl rfl (pc' := 1217) rfl ?_
  refine tt_cv0I hV rfl rfl rfl (Wd_obj (hB 83 _ rfl)) (Nat.le_of_ble_eq_true rfl) (Nat.le_of_ble_eq_true rfl) rfl r2 (pc' := 1220) rfl ?_
  exact r_icmp_eq hV rfl (pt := 1540) (by decide) (pf := 1223) rfl (fun _ => K m2 c w) (fun h => absurd rfl h)
theorem lc_seen (hV : Clo (gP X.1 X.2.1) 800 0 7 false V) (hB : Bsh X.2.2.1) (hw : X.2.2.1.length ≤ 1000000) (hl : X.1.length ≤ 3072) {i : Int} (hi : 0 ≤ i ∧ i + 5 < X.1.length) {A' : Ab} (hb : Bth X A' t (V_seen X (779 + 20) (sc X.1 (i + 1)) (sc X.1 (i + 2)) (bz (sc X.1 (i + 3)))) (M_seen X (779 + 20) (sc X.1 (i + 1)) (sc X.1 (i + 2)) (bz (sc X.1 (i + 3)))) m) (K : ∀ m', CW X m' A' (t + 1) → MW m' A' → V (1540, lL i o5 o6, [], Wd X.2.2.1 m', X.2.2.2)) : V (1225, lL i o5 o6, [], Wd X.2.2.1 m, X.2.2.2) := by
  obtain ⟨v, m1, ⟨v', m2, ⟨e, c, w⟩, r2⟩, r1⟩ := hb
  rw [e] at r2
  refine r_aload_n hV rfl rfl (pc' := 1226) rfl ?_
  refine s_rd hV 1 rfl rfl rfl rfl rfl hw hl (by omega) (pc' := 1232) rfl ?_
  refine s_rd hV 2 rfl rfl rfl rfl rfl hw hl (by omega) (pc' := 1238) rfl ?_
  refine s_rd hV 3 rfl rfl rfl rfl rfl hw hl (by omega) (pc' := 1244) rfl ?_
  refine s_bz hV (sc_r _ _) rfl rfl rfl rfl (pc' := 1252) rfl ?_
  refine tt_cv3I hV rfl rfl rfl (Wd_obj (hB 0 _ rfl)) (Nat.le_of_ble_eq_true rfl) (Nat.le_of_ble_eq_true rfl) rfl r1 (pc' := 1255) rfl ?_
  refine r_aload_n hV rfl rfl (pc' := 1256) rfl ?_
  refine s_rd hV 1 rfl rfl rfl rfl rfl hw hl (by omega) (pc' := 1262) rfl ?_
  refine s_rd hV 2 rfl rfl rfl rfl rfl hw hl (by omega) (pc' := 1268) rfl ?_
  refine s_rd hV 3 rfl rfl rfl rfl rfl hw hl (by omega) (pc' := 1274) rfl ?_
  refine s_bz hV (sc_r _ _) rfl rfl rfl rfl (pc' := 1282) rfl ?_
  refine tt_cv3I hV rfl rfl rfl (Wd_obj (hB 83 _ rfl)) (Nat.le_of_ble_eq_true rfl) (Nat.le_of_ble_eq_true rfl) rfl r2 (pc' := 1285) rfl ?_
  exact r_icmp_eq hV rfl (pt := 1540) (by decide) (pf := 1288) rfl (fun _ => K m2 c w) (fun h => absurd rfl h)
theorem lc_who (hV : Clo (gP X.1 X.2.1) 800 0 7 false V) (hB : Bsh X.2.2.1) (hw : X.2.2.1.length ≤ 1000000) (hl : X.1.length ≤ 3072) {i : Int} (hi : 0 ≤ i ∧ i + 5 < X.1.length) {A' : Ab} (hb : Bth X A' t (V_who X (779 + 20) (sc X.1 (i + 1)) (sc X.1 (i + 2))) (M_who X (779 + 20) (sc X.1 (i + 1)) (sc X.1 (i + 2))) m) (K : ∀ m', CW X m' A' (t + 1) → MW m' A' → V (1540, lL i o5 o6, [], Wd X.2.2.1 m', X.2.2.2)) : V (1290, lL i o5 o6, [], Wd X.2.2.1 m, X.2.2.2) := by
  obtain ⟨v, m1, ⟨v', m2, ⟨e, c, w⟩, r2⟩, r1⟩ := hb
  rw [e] at r2
  refine r_aload_n hV rfl rfl (pc' := 1291) rfl ?_
  refine s_rd hV 1 rfl rfl rfl rfl rfl hw hl (by omega) (pc' := 1297) rfl ?_
  refine s_rd hV 2 rfl rfl rfl rfl rfl hw hl (by omega) (pc' := 1303) rfl ?_
  refine tt_cv2I hV rfl rfl rfl (Wd_obj (hB 0 _ rfl)) (Nat.le_of_ble_eq_true rfl) (Nat.le_of_ble_eq_true rfl) rfl r1 (pc' := 1306) rfl ?_
  refine r_aload_n hV rfl rfl (pc' := 1307) rfl ?_
  refine s_rd hV 1 rfl rfl rfl rfl rfl hw hl (by omega) (pc' := 1313) rfl ?_
  refine s_rd hV 2 rfl rfl rfl rfl rfl hw hl (by omega) (pc' := 1319) rfl ?_
  refine tt_cv2I hV rfl rfl rfl (Wd_obj (hB 83 _ rfl)) (Nat.le_of_ble_eq_true rfl) (Nat.le_of_ble_eq_true rfl) rfl r2 (pc' := 1322) rfl ?_
  exact r_icmp_eq hV rfl (pt := 1540) (by decide) (pf := 1325) rfl (fun _ => K m2 c w) (fun h => absurd rfl h)
theorem lc_best (hV : Clo (gP X.1 X.2.1) 800 0 7 false V) (hB : Bsh X.2.2.1) (hw : X.2.2.1.length ≤ 1000000) (hl : X.1.length ≤ 3072) {i : Int} (hi : 0 ≤ i ∧ i + 5 < X.1.length) {A' : Ab} (hb : Bth X A' t (V_best X (779 + 20) (sc X.1 (i + 1))) (M_best X (779 + 20) (sc X.1 (i + 1))) m) (K : ∀ m', CW X m' A' (t + 1) → MW m' A' → V (1540, lL i o5 o6, [], Wd X.2.2.1 m', X.2.2.2)) : V (1327, lL i o5 o6, [], Wd X.2.2.1 m, X.2.2.2) := by
  obtain ⟨v, m1, ⟨v', m2, ⟨e, c, w⟩, r2⟩, r1⟩ := hb
  rw [e] at r2
  refine r_aload_n hV rfl rfl (pc' := 1328) rfl ?_
  refine s_rd hV 1 rfl rfl rfl rfl rfl hw hl (by omega) (pc' := 1334) rfl ?_
  refine tt_cv1I hV rfl rfl rfl (Wd_obj (hB 0 _ rfl)) (Nat.le_of_ble_eq_true rfl) (Nat.le_of_ble_eq_true rfl) rfl r1 (pc' := 1337) rfl ?_
  refine r_aload_n hV rfl rfl (pc' := 1338) rfl ?_
  refine s_rd hV 1 rfl rfl rfl rfl rfl hw hl (by omega) (pc' := 1344) rfl ?_
  refine tt_cv1I hV rfl rfl rfl (Wd_obj (hB 83 _ rfl)) (Nat.le_of_ble_eq_true rfl) (Nat.le_of_ble_eq_true rfl) rfl r2 (pc' := 1347) rfl ?_
  exact r_icmp_eq hV rfl (pt := 1540) (by decide) (pf := 1350) rfl (fun _ => K m2 c w) (fun h => absurd rfl h)
theorem lc_odds (hV : Clo (gP X.1 X.2.1) 800 0 7 false V) (hB : Bsh X.2.2.1) (hw : X.2.2.1.length ≤ 1000000) (hl : X.1.length ≤ 3072) {i : Int} (hi : 0 ≤ i ∧ i + 5 < X.1.length) {A' : Ab} (hb : Bth X A' t (V_odds X (779 + 20) (sc X.1 (i + 1)) (sc X.1 (i + 2))) (M_odds X (779 + 20) (sc X.1 (i + 1)) (sc X.1 (i + 2))) m) (K : ∀ m', CW X m' A' (t + 1) → MW m' A' → V (1540, lL i o5 o6, [], Wd X.2.2.1 m', X.2.2.2)) : V (1352, lL i o5 o6, [], Wd X.2.2.1 m, X.2.2.2) := by
  obtain ⟨v, m1, ⟨v', m2, ⟨e, c, w⟩, r2⟩, r1⟩ := hb
  rw [e] at r2
  refine r_aload_n hV rfl rfl (pc' := 1353) rfl ?_
  refine s_rd hV 1 rfl rfl rfl rfl rfl hw hl (by omega) (pc' := 1359) rfl ?_
  refine s_rd hV 2 rfl rfl rfl rfl rfl hw hl (by omega) (pc' := 1365) rfl ?_
  refine tt_cv2I hV rfl rfl rfl (Wd_obj (hB 0 _ rfl)) (Nat.le_of_ble_eq_true rfl) (Nat.le_of_ble_eq_true rfl) rfl r1 (pc' := 1368) rfl ?_
  refine r_aload_n hV rfl rfl (pc' := 1369) rfl ?_
  refine s_rd hV 1 rfl rfl rfl rfl rfl hw hl (by omega) (pc' := 1375) rfl ?_
  refine s_rd hV 2 rfl rfl rfl rfl rfl hw hl (by omega) (pc' := 1381) rfl ?_
  refine tt_cv2I hV rfl rfl rfl (Wd_obj (hB 83 _ rfl)) (Nat.le_of_ble_eq_true rfl) (Nat.le_of_ble_eq_true rfl) rfl r2 (pc' := 1384) rfl ?_
  exact r_icmp_eq hV rfl (pt := 1540) (by decide) (pf := 1387) rfl (fun _ => K m2 c w) (fun h => absurd rfl h)
theorem lc_shares (hV : Clo (gP X.1 X.2.1) 800 0 7 false V) (hB : Bsh X.2.2.1) (hw : X.2.2.1.length ≤ 1000000) (hl : X.1.length ≤ 3072) {i : Int} (hi : 0 ≤ i ∧ i + 5 < X.1.length) {A' : Ab} (hb : Bth X A' t (V_shares X (779 + 20) (sc X.1 (i + 1)) (sc X.1 (i + 2))) (M_shares X (779 + 20) (sc X.1 (i + 1)) (sc X.1 (i + 2))) m) (K : ∀ m', CW X m' A' (t + 1) → MW m' A' → V (1540, lL i o5 o6, [], Wd X.2.2.1 m', X.2.2.2)) : V (1389, lL i o5 o6, [], Wd X.2.2.1 m, X.2.2.2) := by
  obtain ⟨v, m1, ⟨v', m2, ⟨e, c, w⟩, r2⟩, r1⟩ := hb
  rw [e] at r2
  refine r_aload_n hV rfl rfl (pc' := 1390) rfl ?_
  refine s_rd hV 1 rfl rfl rfl rfl rfl hw hl (by omega) (pc' := 1396) rfl ?_
  refine s_rd hV 2 rfl rfl rfl rfl rfl hw hl (by omega) (pc' := 1402) rfl ?_
  refine tt_cv2I hV rfl rfl rfl (Wd_obj (hB 0 _ rfl)) (Nat.le_of_ble_eq_true rfl) (Nat.le_of_ble_eq_true rfl) rfl r1 (pc' := 1405) rfl ?_
  refine r_aload_n hV rfl rfl (pc' := 1406) rfl ?_
  refine s_rd hV 1 rfl rfl rfl rfl rfl hw hl (by omega) (pc' := 1412) rfl ?_
  refine s_rd hV 2 rfl rfl rfl rfl rfl hw hl (by omega) (pc' := 1418) rfl ?_
  refine tt_cv2I hV rfl rfl rfl (Wd_obj (hB 83 _ rfl)) (Nat.le_of_ble_eq_true rfl) (Nat.le_of_ble_eq_true rfl) rfl r2 (pc' := 1421) rfl ?_
  exact r_icmp_eq hV rfl (pt := 1540) (by decide) (pf := 1424) rfl (fun _ => K m2 c w) (fun h => absurd rfl h)
theorem lc_most (hV : Clo (gP X.1 X.2.1) 800 0 7 false V) (hB : Bsh X.2.2.1) (hw : X.2.2.1.length ≤ 1000000) (hl : X.1.length ≤ 3072) {i : Int} (hi : 0 ≤ i ∧ i + 5 < X.1.length) {A' : Ab} (hb : Bth X A' t (V_most X (779 + 20) (sc X.1 (i + 1))) (M_most X (779 + 20) (sc X.1 (i + 1))) m) (K : ∀ m', CW X m' A' (t + 1) → MW m' A' → V (1540, lL i o5 o6, [], Wd X.2.2.1 m', X.2.2.2)) : V (1426, lL i o5 o6, [], Wd X.2.2.1 m, X.2.2.2) := by
  obtain ⟨v, m1, ⟨v', m2, ⟨e, c, w⟩, r2⟩, r1⟩ := hb
  rw [e] at r2
  refine r_aload_n hV rfl rfl (pc' := 1427) rfl ?_
  refine s_rd hV 1 rfl rfl rfl rfl rfl hw hl (by omega) (pc' := 1433) rfl ?_
  refine tt_cv1I hV rfl rfl rfl (Wd_obj (hB 0 _ rfl)) (Nat.le_of_ble_eq_true rfl) (Nat.le_of_ble_eq_true rfl) rfl r1 (pc' := 1436) rfl ?_
  refine r_aload_n hV rfl rfl (pc' := 1437) rfl ?_
  refine s_rd hV 1 rfl rfl rfl rfl rfl hw hl (by omega) (pc' := 1443) rfl ?_
  refine tt_cv1I hV rfl rfl rfl (Wd_obj (hB 83 _ rfl)) (Nat.le_of_ble_eq_true rfl) (Nat.le_of_ble_eq_true rfl) rfl r2 (pc' := 1446) rfl ?_
  exact r_icmp_eq hV rfl (pt := 1540) (by decide) (pf := 1449) rfl (fun _ => K m2 c w) (fun h => absurd rfl h)
theorem lc_stays (hV : Clo (gP X.1 X.2.1) 800 0 7 false V) (hB : Bsh X.2.2.1) (hw : X.2.2.1.length ≤ 1000000) (hl : X.1.length ≤ 3072) {i : Int} (hi : 0 ≤ i ∧ i + 5 < X.1.length) {A' : Ab} (hb : Bth X A' t (V_stays X (779 + 20) (sc X.1 (i + 1))) (M_stays X (779 + 20) (sc X.1 (i + 1))) m) (K : ∀ m', CW X m' A' (t + 1) → MW m' A' → V (1540, lL i o5 o6, [], Wd X.2.2.1 m', X.2.2.2)) : V (1451, lL i o5 o6, [], Wd X.2.2.1 m, X.2.2.2) := by
  obtain ⟨v, m1, ⟨v', m2, ⟨e, c, w⟩, r2⟩, r1⟩ := hb
  rw [e] at r2
  refine r_aload_n hV rfl rfl (pc' := 1452) rfl ?_
  refine s_rd hV 1 rfl rfl rfl rfl rfl hw hl (by omega) (pc' := 1458) rfl ?_
  refine tt_cv1I hV rfl rfl rfl (Wd_obj (hB 0 _ rfl)) (Nat.le_of_ble_eq_true rfl) (Nat.le_of_ble_eq_true rfl) rfl r1 (pc' := 1461) rfl ?_
  refine r_aload_n hV rfl rfl (pc' := 1462) rfl ?_
  refine s_rd hV 1 rfl rfl rfl rfl rfl hw hl (by omega) (pc' := 1468) rfl ?_
  refine tt_cv1I hV rfl rfl rfl (Wd_obj (hB 83 _ rfl)) (Nat.le_of_ble_eq_true rfl) (Nat.le_of_ble_eq_true rfl) rfl r2 (pc' := 1471) rfl ?_
  exact r_icmp_eq hV rfl (pt := 1540) (by decide) (pf := 1474) rfl (fun _ => K m2 c w) (fun h => absurd rfl h)
theorem lc_met (hV : Clo (gP X.1 X.2.1) 800 0 7 false V) (hB : Bsh X.2.2.1) (hw : X.2.2.1.length ≤ 1000000) (hl : X.1.length ≤ 3072) {i : Int} (hi : 0 ≤ i ∧ i + 5 < X.1.length) {A' : Ab} (hb : Bth X A' t (V_met X (779 + 20) ) (M_met X (779 + 20) ) m) (K : ∀ m', CW X m' A' (t + 1) → MW m' A' → V (1540, lL i o5 o6, [], Wd X.2.2.1 m', X.2.2.2)) : V (1476, lL i o5 o6, [], Wd X.2.2.1 m, X.2.2.2) := by
  obtain ⟨v, m1, ⟨v', m2, ⟨e, c, w⟩, r2⟩, r1⟩ := hb
  rw [e] at r2
  refine r_aload_n hV rfl rfl (pc' := 1477) rfl ?_
  refine tt_cv0I hV rfl rfl rfl (Wd_obj (hB 0 _ rfl)) (Nat.le_of_ble_eq_true rfl) (Nat.le_of_ble_eq_true rfl) rfl r1 (pc' := 1480) rfl ?_
  refine r_aload_n hV rfl rfl (pc' := 1481) rfl ?_
  refine tt_cv0I hV rfl rfl rfl (Wd_obj (hB 83 _ rfl)) (Nat.le_of_ble_eq_true rfl) (Nat.le_of_ble_eq_true rfl) rfl r2 (pc' := 1484) rfl ?_
  exact r_icmp_eq hV rfl (pt := 1540) (by decide) (pf := 1487) rfl (fun _ => K m2 c w) (fun h => absurd rfl h)
theorem lc_image (hV : Clo (gP X.1 X.2.1) 800 0 7 false V) (hB : Bsh X.2.2.1) (hw : X.2.2.1.length ≤ 1000000) (hl : X.1.length ≤ 3072) {i : Int} (hi : 0 ≤ i ∧ i + 5 < X.1.length) {A' : Ab} (hb : Bth X A' t (V_image X (779 + 20) ) (M_image X (779 + 20) ) m) (K : ∀ m', CW X m' A' (t + 1) → MW m' A' → V (1540, lL i o5 o6, [], Wd X.2.2.1 m', X.2.2.2)) : V (1489, lL i o5 o6, [], Wd X.2.2.1 m, X.2.2.2) := by
  obtain ⟨v, m1, ⟨v', m2, ⟨e, c, w⟩, r2⟩, r1⟩ := hb
  rw [e] at r2
  refine r_aload_n hV rfl rfl (pc' := 1490) rfl ?_
  refine tt_cv0I hV rfl rfl rfl (Wd_obj (hB 0 _ rfl)) (Nat.le_of_ble_eq_true rfl) (Nat.le_of_ble_eq_true rfl) rfl r1 (pc' := 1493) rfl ?_
  refine r_aload_n hV rfl rfl (pc' := 1494) rfl ?_
  refine tt_cv0I hV rfl rfl rfl (Wd_obj (hB 83 _ rfl)) (Nat.le_of_ble_eq_true rfl) (Nat.le_of_ble_eq_true rfl) rfl r2 (pc' := 1497) rfl ?_
  exact r_icmp_eq hV rfl (pt := 1540) (by decide) (pf := 1500) rfl (fun _ => K m2 c w) (fun h => absurd rfl h)
theorem lc_back (hV : Clo (gP X.1 X.2.1) 800 0 7 false V) (hB : Bsh X.2.2.1) (hw : X.2.2.1.length ≤ 1000000) (hl : X.1.length ≤ 3072) {i : Int} (hi : 0 ≤ i ∧ i + 5 < X.1.length) {A' : Ab} (hb : Bth X A' t (V_back X (779 + 20) ) (M_back X (779 + 20) ) m) (K : ∀ m', CW X m' A' (t + 1) → MW m' A' → V (1540, lL i o5 o6, [], Wd X.2.2.1 m', X.2.2.2)) : V (1502, lL i o5 o6, [], Wd X.2.2.1 m, X.2.2.2) := by
  obtain ⟨v, m1, ⟨v', m2, ⟨e, c, w⟩, r2⟩, r1⟩ := hb
  rw [e] at r2
  refine r_aload_n hV rfl rfl (pc' := 1503) rfl ?_
  refine tt_cv0I hV rfl rfl rfl (Wd_obj (hB 0 _ rfl)) (Nat.le_of_ble_eq_true rfl) (Nat.le_of_ble_eq_true rfl) rfl r1 (pc' := 1506) rfl ?_
  refine r_aload_n hV rfl rfl (pc' := 1507) rfl ?_
  refine tt_cv0I hV rfl rfl rfl (Wd_obj (hB 83 _ rfl)) (Nat.le_of_ble_eq_true rfl) (Nat.le_of_ble_eq_true rfl) rfl r2 (pc' := 1510) rfl ?_
  exact r_icmp_eq hV rfl (pt := 1540) (by decide) (pf := 1513) rfl (fun _ => K m2 c w) (fun h => absurd rfl h)
theorem lc_count (hV : Clo (gP X.1 X.2.1) 800 0 7 false V) (hB : Bsh X.2.2.1) (hw : X.2.2.1.length ≤ 1000000) (hl : X.1.length ≤ 3072) {i : Int} (hi : 0 ≤ i ∧ i + 5 < X.1.length) {A' : Ab} (hb : Bth X A' t (V_count X (779 + 20) (sc X.1 (i + 1))) (M_count X (779 + 20) (sc X.1 (i + 1))) m) (K : ∀ m', CW X m' A' (t + 1) → MW m' A' → V (1540, lL i o5 o6, [], Wd X.2.2.1 m', X.2.2.2)) : V (1515, lL i o5 o6, [], Wd X.2.2.1 m, X.2.2.2) := by
  obtain ⟨v, m1, ⟨v', m2, ⟨e, c, w⟩, r2⟩, r1⟩ := hb
  rw [e] at r2
  refine r_aload_n hV rfl rfl (pc' := 1516) rfl ?_
  refine s_rd hV 1 rfl rfl rfl rfl rfl hw hl (by omega) (pc' := 1522) rfl ?_
  refine tt_cv1I hV rfl rfl rfl (Wd_obj (hB 0 _ rfl)) (Nat.le_of_ble_eq_true rfl) (Nat.le_of_ble_eq_true rfl) rfl r1 (pc' := 1525) rfl ?_
  refine r_aload_n hV rfl rfl (pc' := 1526) rfl ?_
  refine s_rd hV 1 rfl rfl rfl rfl rfl hw hl (by omega) (pc' := 1532) rfl ?_
  refine tt_cv1I hV rfl rfl rfl (Wd_obj (hB 83 _ rfl)) (Nat.le_of_ble_eq_true rfl) (Nat.le_of_ble_eq_true rfl) rfl r2 (pc' := 1535) rfl ?_
  exact r_icmp_eq hV rfl (pt := 1540) (by decide) (pf := 1538) rfl (fun _ => K m2 c w) (fun h => absurd rfl h)
end LCases
