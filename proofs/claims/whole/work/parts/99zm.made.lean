/-! ===== text: a law is made ===== -/
theorem Bsh.app {sh : List Sh} (h : Bsh sh) (x : List Sh) : Bsh (sh ++ x) := by
  intro a s hs
  have h1 := h a s hs
  have hl : a < sh.length := by
    rcases Nat.lt_or_ge a sh.length with q | q
    · exact q
    · rw [List.getElem?_eq_none q] at h1; cases h1
  rw [List.getElem?_append_left hl]
  exact h1
/-- memory with a law's cells behind it -/
def mkL (m : Mm) (l : Nat) : Mm := fun a j => if a = l then -1 else if a = l + 1 then 0 else m a j
section Made
variable {xs : List Int32} {fv : Value} {d n : Nat} {sh : List Sh} {m : Mm}
theorem copy_of (hB : Bsh sh) {ln : Nat} (hln : ln ≤ 240) (hlen : sh.length < 600000) (hn : n + ln ≤ 7000000) (hz : ∀ j : Nat, j < ln → m sh.length j = 0) : Ru (gP xs fv) (d + 1) 301 (some (.ref sh.length), Wd (sh ++ [.inr (.inl (0, ln))]) (upR m sh.length 0 (0 + ln) (fun j => m 7 (j - 0 + 0))), n + ln) (0, [some (.ref 7), some (vI ln), none], [], Wd sh m, n) := by
  have hV : Clo (gP xs fv) (d + 1) 301 3 false (Ru (gP xs fv) (d + 1) 301 (some (.ref sh.length), Wd (sh ++ [.inr (.inl (0, ln))]) (upR m sh.length 0 (0 + ln) (fun j => m 7 (j - 0 + 0))), n + ln)) := Ru_clo (q := mI301) rfl
  have h7 : sh[7]? = some (.inr (.inl (0, 241))) := hB 7 _ rfl
  have hB' := hB.app [.inr (.inl (0, ln))]
  have h7' : (sh ++ [.inr (.inl (0, ln))])[7]? = some (.inr (.inl (0, 241))) := hB' 7 _ rfl
  have ha : (sh ++ [.inr (.inl (0, ln))])[sh.length]? = some (.inr (.inl (0, ln))) := by rw [List.getElem?_append_right (Nat.le_refl _), Nat.sub_self]; rfl
  refine r_iload_n hV rfl rfl (pc' := 1) rfl ?_
  refine r_aload_n hV rfl rfl (pc' := 2) rfl ?_
  refine q_alen hV rfl h7 (by decide) (z := 241) rfl (pc' := 3) rfl ?_
  refine tt_icmp_ne hV rfl (by omega) (by decide) (pt := 14) (by decide) (pf := 6) rfl (fun _ => ?_) (fun hc => absurd (fun e => by omega) hc)
  refine r_iload_n hV rfl rfl (pc' := 15) rfl ?_
  refine tt_newi hV rfl hlen (by omega) hn hz (pc' := 17) rfl ?_
  refine r_astore_n hV rfl (Nat.le_of_ble_eq_true rfl) rfl (pc' := 18) rfl ?_
  refine r_aload_n hV rfl rfl (pc' := 19) rfl ?_
  refine tt_iconst hV rfl (pc' := 20) rfl ?_
  refine r_aload_n hV rfl rfl (pc' := 21) rfl ?_
  refine tt_iconst hV rfl (pc' := 22) rfl ?_
  refine r_aload_n hV rfl rfl (pc' := 23) rfl ?_
  refine q_alen hV rfl h7' (by decide) (z := 241) rfl (pc' := 24) rfl ?_
  refine r_iload_n hV rfl rfl (pc' := 25) rfl ?_
  refine tt_min hV rfl rfl rfl (by decide) (by omega) (Nat.le_of_ble_eq_true rfl) (pc' := 28) rfl ?_
  rw [show min (241 : Int) (ln : Int) = ln by omega]
  refine q_copy hV rfl rfl rfl h7' ha (by decide) (by omega) (z0 := 241) rfl (z1 := (ln : Int)) rfl (by omega) (by omega) (by omega) (Nat.le_of_ble_eq_true rfl) (pc' := 31) rfl ?_
  refine r_aload_n hV rfl rfl (pc' := 32) rfl ?_
  exact v_ret (q := mI301) rfl rfl rfl rfl
theorem law_init {l a : Nat} {mm : Mm} (hl : sh[l]? = some (.inl (4, [2]))) : Ru (gP xs fv) (d + 1) 34 (none, Wd sh (up mm l 0 (a : Int)), n) (0, [some (.ref l), some (.ref a)], [], Wd sh mm, n) := by
  have hV : Clo (gP xs fv) (d + 1) 34 2 true (Ru (gP xs fv) (d + 1) 34 (none, Wd sh (up mm l 0 (a : Int)), n)) := Ru_clo (q := mI34) rfl
  refine r_aload_n hV rfl rfl (pc' := 1) rfl ?_
  refine r_objI hV rfl rfl rfl (Nat.le_of_ble_eq_true rfl) (pc' := 4) rfl ?_
  refine r_aload_n hV rfl rfl (pc' := 5) rfl ?_
  refine r_aload_n hV rfl rfl (pc' := 6) rfl ?_
  refine tt_put hV (tg := 6) (ci := 4) (kf := 0) (t := 2) (v := (a : Int)) rfl rfl (Or.inr ⟨rfl, rfl⟩) hl rfl (by decide) rfl ?_ (pc' := 9) rfl ?_
  · show Value.ref a = (if (a : Int) < 0 then Value.null else .ref (a : Int).toNat)
    rw [if_neg (by omega), Int.toNat_natCast]
  · exact v_ret (q := mI34) rfl rfl rfl rfl
/-- the world with a law more -/
def shL (sh : List Sh) (ln : Nat) : List Sh := (sh ++ [.inl (4, [sh.length + 1 + 3])]) ++ [.inr (.inl (0, ln))]
def mmL (m : Mm) (l ln : Nat) : Mm := up (upR (mkL m l) (l + 1) 0 (0 + (ln : Int)) (fun j => mkL m l 7 (j - 0 + 0))) l 0 ((l + 1 : Nat) : Int)
theorem law_make (hB : Bsh sh) {ln : Nat} (hln : ln ≤ 240) (h62 : m 6 2 = (ln : Int)) (h114 : 114 ≤ sh.length) (hlen : sh.length + 1 < 600000) (hn : n + 1 + ln ≤ 7000000) : Ru (gP xs fv) (d + 2) 39 (some (.ref sh.length), Wd (shL sh ln) (mmL m sh.length ln), n + 1 + ln) (0, [some (.ref 6)], [], Wd sh m, n) := by
  have hV : Clo (gP xs fv) (d + 2) 39 1 false (Ru (gP xs fv) (d + 2) 39 (some (.ref sh.length), Wd (shL sh ln) (mmL m sh.length ln), n + 1 + ln)) := Ru_clo (q := mI39) rfl
  have e0 : Wd sh m = Wd sh (mkL m sh.length) := Wd_eq (fun a ha => by
    funext j
    unfold mkL
    rw [if_neg (by omega), if_neg (by omega)])
  rw [e0]
  obtain ⟨mA, hmA⟩ : ∃ mA, mA = mkL m sh.length := ⟨_, rfl⟩
  have el : mA sh.length = fun _ => -1 := by rw [hmA]; funext j; unfold mkL; rw [if_pos rfl]
  have ea : mA (sh.length + 1) = fun _ => 0 := by rw [hmA]; funext j; unfold mkL; rw [if_neg (by omega), if_pos rfl]
  have e62 : mA 6 2 = (ln : Int) := by rw [hmA]; unfold mkL; rw [if_neg (by omega), if_neg (by omega)]; exact h62
  rw [← hmA]
  have hB1 := hB.app [.inl (4, [2])]
  have hB2 := hB1.app [.inr (.inl (0, ln))]
  have hl1 : (sh ++ [.inl (4, [2])] : List Sh).length = sh.length + 1 := by simp
  refine tt_new hV (s := .inl (4, [2])) rfl rfl rfl (by omega) (by show n + 1 ≤ 7000000; omega) (by rw [el]; rfl) (pc' := 3) rfl ?_
  refine r_dup hV rfl rfl (pc' := 4) rfl ?_
  refine r_aload_n hV rfl rfl (pc' := 5) rfl ?_
  refine tt_getR hV (tg := 6) (ci := 5) (kf := 1) (b := 7) rfl rfl (by decide) (hB1 6 _ rfl) rfl (by decide) (pc' := 8) rfl ?_
  refine r_aload_n hV rfl rfl (pc' := 9) rfl ?_
  refine tt_getI hV (tg := 0) (ci := 5) (kf := 2) rfl rfl (by decide) (hB1 6 _ rfl) rfl (by decide) (pc' := 12) rfl ?_
  rw [e62]
  have hcp := copy_of (xs := xs) (fv := fv) (d := d) (n := n + 1) (sh := sh ++ [.inl (4, [2])]) (m := mA) hB1 hln (by rw [hl1]; exact hlen) hn (fun j _ => by rw [hl1, ea])
  rw [hl1] at hcp
  refine v_calls hV rfl rfl rfl (Nat.le_of_ble_eq_true rfl) rfl rfl (Nat.le_of_ble_eq_true rfl) (Nat.le_of_ble_eq_true rfl) rfl hcp rfl (pc' := 15) rfl ?_
  have hlL : ((sh ++ [.inl (4, [2])]) ++ [.inr (.inl (0, ln))] : List Sh)[sh.length]? = some (.inl (4, [2])) := by
    rw [List.getElem?_append_left (by rw [hl1]; omega), List.getElem?_append_right (Nat.le_refl _), Nat.sub_self]
    rfl
  refine v_calli hV (z := 2) rfl rfl (Or.inl rfl) rfl rfl rfl (Nat.le_of_ble_eq_true rfl) (Nat.le_of_ble_eq_true rfl) rfl (law_init (a := sh.length + 1) hlL) rfl (pc' := 18) rfl ?_
  refine v_ret (q := mI39) rfl rfl rfl ?_
  have ew : Wd (shL sh ln) (mmL m sh.length ln) = Wd ((sh ++ [.inl (4, [2])]) ++ [.inr (.inl (0, ln))]) (up (upR mA (sh.length + 1) 0 (0 + (ln : Int)) (fun j => mA 7 (j - 0 + 0))) sh.length 0 ((sh.length + 1 : Nat) : Int)) := by
    unfold shL mmL
    rw [← hmA]
    obtain ⟨mX, hmX⟩ : ∃ mX, mX = up (upR mA (sh.length + 1) 0 (0 + (ln : Int)) (fun j => mA 7 (j - 0 + 0))) sh.length 0 ((sh.length + 1 : Nat) : Int) := ⟨_, rfl⟩
    rw [← hmX]
    have hv : mX sh.length ((0 : Nat) : Int) = ((sh.length + 1 : Nat) : Int) := by rw [hmX]; exact up_same _ _ _ _
    have e : vT 2 (mX sh.length ((0 : Nat) : Int)) = .ref (sh.length + 1) := by
      show (if mX sh.length ((0 : Nat) : Int) < 0 then Value.null else .ref (mX sh.length ((0 : Nat) : Int)).toNat) = _
      rw [hv, if_neg (by omega), Int.toNat_natCast]
    have hcell : mkC (.inl (4, [sh.length + 1 + 3])) (mX sh.length) = mkC (.inl (4, [2])) (mX sh.length) := by
      show (some (Sum.inr (4, [Value.ref (sh.length + 1)])) : Option aC) = some (Sum.inr (4, [vT 2 (mX sh.length ((0 : Nat) : Int))]))
      rw [e]
    have hla : (sh ++ [.inl (4, [sh.length + 1 + 3])] : List Sh).length = sh.length + 1 := by simp
    rw [Wd_app, Wd_app sh, hla, hcell, Wd_app, Wd_app, hl1]
  rw [ew]
/-- a law of the class is taken -/
theorem take_law (hB : Bsh sh) {ln : Nat} (hln : ln ≤ 240) (h62 : m 6 2 = (ln : Int)) (h114 : 114 ≤ sh.length) (hlen : sh.length + 1 < 600000) (hn : n + 1 + ln ≤ 7000000) {lc : Int} (h04 : m 0 4 = lc) (hlc : 0 ≤ lc ∧ lc < 4) : Ru (gP xs fv) (d + 3) 159 (some (vI lc), Wd (shL sh ln) (up (up (up (mmL m sh.length ln) 8 lc (sh.length : Int)) 1 1 0) 0 4 (lc + 1)), n + 1 + ln) (0, [some (.ref 0)], [], Wd sh m, n) := by
  have hV : Clo (gP xs fv) (d + 3) 159 1 false (Ru (gP xs fv) (d + 3) 159 (some (vI lc), Wd (shL sh ln) (up (up (up (mmL m sh.length ln) 8 lc (sh.length : Int)) 1 1 0) 0 4 (lc + 1)), n + 1 + ln)) := Ru_clo (q := mI159) rfl
  have hB2 : Bsh (shL sh ln) := (hB.app _).app _
  have hl1 : (sh ++ [.inl (4, [sh.length + 1 + 3])] : List Sh).length = sh.length + 1 := by simp
  have hlL : (shL sh ln)[sh.length]? = some (.inl (4, [sh.length + 1 + 3])) := by
    unfold shL
    rw [List.getElem?_append_left (by rw [hl1]; omega), List.getElem?_append_right (Nat.le_refl _), Nat.sub_self]
    rfl
  have hold : ∀ a, a < sh.length → mmL m sh.length ln a = m a := fun a ha => by
    unfold mmL
    rw [up_off (by omega), upR_off (by omega)]
    funext j
    unfold mkL
    rw [if_neg (by omega), if_neg (by omega)]
  refine r_aload_n hV rfl rfl (pc' := 1) rfl ?_
  refine tt_getR hV (tg := 6) (ci := 11) (kf := 3) (b := 8) rfl rfl (by decide) (hB 0 _ rfl) rfl (by decide) (pc' := 4) rfl ?_
  refine r_aload_n hV rfl rfl (pc' := 5) rfl ?_
  refine tt_getI hV (tg := 0) (ci := 11) (kf := 4) rfl rfl (by decide) (hB 0 _ rfl) rfl (by decide) (pc' := 8) rfl ?_
  rw [h04]
  refine r_aload_n hV rfl rfl (pc' := 9) rfl ?_
  refine tt_getR hV (tg := 6) (ci := 11) (kf := 2) (b := 6) rfl rfl (by decide) (hB 0 _ rfl) rfl (by decide) (pc' := 12) rfl ?_
  refine tt_cv0I hV rfl rfl rfl (Wd_obj (hB 6 _ rfl)) (Nat.le_of_ble_eq_true rfl) (Nat.le_of_ble_eq_true rfl) rfl (law_make (d := d) hB hln h62 h114 hlen hn) (pc' := 15) rfl ?_
  refine tt_aast hV (ci := 4) (t := 4) (len := 4) (C := "SledgeVote$Law") rfl (hB2 8 _ rfl) hlL rfl (gOcs (X := (xs, fv, sh, n))).1 (fun f => rfl) (by decide) hlc (pc' := 16) rfl ?_
  refine r_aload_n hV rfl rfl (pc' := 17) rfl ?_
  refine tt_getR hV (tg := 6) (ci := 11) (kf := 0) (b := 1) rfl rfl (by decide) (hB2 0 _ rfl) rfl (by decide) (pc' := 20) rfl ?_
  refine tt_iconst hV rfl (pc' := 21) rfl ?_
  refine tt_putI hV (tg := 0) (ci := 9) (kf := 1) rfl rfl (Or.inl rfl) (hB2 1 _ rfl) rfl (by decide) rfl (pc' := 24) rfl ?_
  refine r_aload_n hV rfl rfl (pc' := 25) rfl ?_
  refine r_dup hV rfl rfl (pc' := 26) rfl ?_
  refine tt_getI hV (tg := 0) (ci := 11) (kf := 4) rfl rfl (by decide) (hB2 0 _ rfl) rfl (by decide) (pc' := 29) rfl ?_
  rw [show (up (up (mmL m sh.length ln) 8 lc (sh.length : Int)) 1 1 0) 0 4 = lc by rw [up_off (by decide), up_off (by decide), hold 0 (by omega)]; exact h04]
  refine tt_iconst hV rfl (pc' := 30) rfl ?_
  refine tt_iadd hV rfl (pc' := 31) rfl ?_
  refine tt_putI hV (tg := 0) (ci := 11) (kf := 4) rfl rfl (Or.inl rfl) (hB2 0 _ rfl) rfl (by decide) rfl (pc' := 34) rfl ?_
  refine r_aload_n hV rfl rfl (pc' := 35) rfl ?_
  refine tt_getI hV (tg := 0) (ci := 11) (kf := 4) rfl rfl (by decide) (hB2 0 _ rfl) rfl (by decide) (pc' := 38) rfl ?_
  rw [up_same]
  refine tt_iconst hV rfl (pc' := 39) rfl ?_
  refine tt_isub hV rfl (pc' := 40) rfl ?_
  rw [show lc + 1 - 1 = lc by omega]
  exact v_ret (q := mI159) rfl rfl rfl rfl
end Made
section Made2
variable {X : Cx} {d : Nat} {m : Mm}
/-- text, where a law is made -/
theorem V_text_law (hB : Bsh X.2.2.1) {res : Option Value × aW × Nat} (h4 : 0 ≤ m 0 4 ∧ m 0 4 < 4) (h : P_read X d m (fun v m1 => v = -1 ∧ Ru (gP X.1 X.2.1) d 159 res (0, [some (.ref 0)], [], Wd X.2.2.1 m1, X.2.2.2))) {rv : Int} (hres : res.1 = some (vI rv)) : Ru (gP X.1 X.2.1) (d + 1) 115 res (0, [some (.ref 0), some (vI 1)], [], Wd X.2.2.1 m, X.2.2.2) := by
  have hV : Clo (gP X.1 X.2.1) (d + 1) 115 2 false (Ru (gP X.1 X.2.1) (d + 1) 115 res) := Ru_clo (q := mI115) rfl
  obtain ⟨r1, r2, r3⟩ := res
  dsimp only at hres
  subst hres
  refine r_iload_n hV rfl rfl (pc' := 1) rfl ?_
  refine tt_if_ne hV rfl (by decide) (pt := 24) (by decide) (pf := 4) rfl (fun _ => ?_) (fun hc => absurd (by decide) hc)
  refine r_iload_n hV rfl rfl (pc' := 25) rfl ?_
  refine tt_iconst hV rfl (pc' := 26) rfl ?_
  refine tt_icmp_ne hV rfl (by decide) (by decide) (pt := 53) (by decide) (pf := 29) rfl (fun hc => absurd rfl hc) (fun _ => ?_)
  refine r_aload_n hV rfl rfl (pc' := 30) rfl ?_
  refine tt_getI hV (tg := 0) (ci := 11) (kf := 4) rfl rfl (by decide) (hB _ _ rfl) rfl (by decide) (pc' := 33) rfl ?_
  refine tt_iconst hV rfl (pc' := 34) rfl ?_
  refine tt_icmp_ge hV rfl (by omega) (by decide) (pt := 53) (by decide) (pf := 37) rfl (fun hc => by omega) (fun _ => ?_)
  refine r_aload_n hV rfl rfl (pc' := 38) rfl ?_
  refine tt_getR hV (tg := 6) (ci := 11) (kf := 2) rfl rfl (by decide) (hB _ _ rfl) rfl (by decide) (pc' := 41) rfl ?_
  obtain ⟨v, m1, ⟨q1, q2⟩, hr⟩ := h
  subst q1
  refine tt_cv0I hV rfl rfl rfl (Wd_obj (hB _ _ rfl)) (Nat.le_of_ble_eq_true rfl) (Nat.le_of_ble_eq_true rfl) rfl hr (pc' := 44) rfl ?_
  refine tt_iconst hV rfl (pc' := 45) rfl ?_
  refine tt_icmp_ne hV rfl (by decide) (by decide) (pt := 53) (by decide) (pf := 48) rfl (fun hc => absurd rfl hc) (fun _ => ?_)
  refine r_aload_n hV rfl rfl (pc' := 49) rfl ?_
  refine tt_cv0I hV rfl rfl rfl (Wd_obj (hB _ _ rfl)) (Nat.le_of_ble_eq_true rfl) (Nat.le_of_ble_eq_true rfl) rfl q2 (pc' := 52) rfl ?_
  exact v_ret (q := mI115) rfl rfl rfl rfl
end Made2
