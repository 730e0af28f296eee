/-! ===== fault: both sides; rows of text ===== -/
section Fault
variable {X : Cx} {d : Nat} {m : Mm} {A A' : Ab} {t : Int} {Q : Int → Mm → Prop}
theorem bth_of2 {V M : Mm → (Int → Mm → Prop) → Prop} {F : Int} (hI : InvA X m A t) (hV : ∀ Q : Int → Mm → Prop, (∀ m', CW X m' A' (t + 1) → hiS m m' → Q F m') → V m Q) (hM : ∀ (m1 : Mm) (Q : Int → Mm → Prop), hiS m m1 → MW m1 A → (∀ m', MW m' A' → loS m1 m' → Q F m') → M m1 Q) : Bth X A' t V M m := by
  refine hV _ (fun m1 g1 g2 => hM m1 _ g2 (hI.2.1.hi g2) (fun m2 g3 g4 => ⟨rfl, g1.lo g4, g3⟩))
/-- the class's readers and its spare canton -/
theorem CW.scr {m' : Mm} {c2 : Nat} (h : CW X m A t) (h7 : m 0 7 = (c2 : Int)) (hf : Fr [3, 4, 5, 6, 7, c2, c2 + 1, c2 + 2, c2 + 3] m m') : CW X m' A t := by
  obtain ⟨a1, ⟨c, c2', b1, b2, b3, b4, b5, b6, b7, b8⟩, a3, a4, a5, a6, a7, a8, a9⟩ := h
  have e2 : c2' = c2 := by rw [b5] at h7; omega
  subst e2
  have f : ∀ a, a ∉ [3, 4, 5, 6, 7, c2', c2' + 1, c2' + 2, c2' + 3] → m' a = m a := fun a ha => hf a ha
  have g : ∀ a, 17 ≤ a → m' a = m a := fun a ha => f a (by simp; omega)
  have k : ∀ a, a = c ∨ a = c + 1 ∨ a = c + 2 ∨ a = c + 3 → m' a = m a := fun a ha => f a (by simp; omega)
  have g0 : m' 0 = m 0 := f 0 (by simp; omega)
  have g1 : m' 1 = m 1 := f 1 (by simp; omega)
  have g2 : m' 2 = m 2 := f 2 (by simp; omega)
  have g8 : m' 8 = m 8 := f 8 (by simp; omega)
  unfold CW
  rw [g1, g2, g0, g 18 (by omega), g 17 (by omega), g 82 (by omega), g 73 (by omega), g 77 (by omega), g 78 (by omega), g 79 (by omega)]
  exact ⟨a1, ⟨c, c2', b1, b2, b3, b4, b5, b6, b7.fr (k _ (by omega)) (k _ (by omega)) (k _ (by omega)), fun j h1 h2 => by rw [k (c + 3) (by omega)]; exact b8 j h1 h2⟩, a3.cg (by rw [g0]) (by rw [g0]) (by rw [g 18 (by omega)]) g8 (fun a ha => g a (by omega)), a4.cg (g _ (by omega)) (by rw [g 21 (by omega)]) (by rw [g 21 (by omega)]) (g _ (by omega)) (g _ (by omega)) (fun a h1 h2 => g a (by omega)), a5.cg (by rw [g 21 (by omega)]) (g _ (by omega)) (g _ (by omega)), a6, a7, a8, a9⟩
theorem MLaw_tx {m m' : Mm} {Ls : List Lw} {hd tx : Int} (h : MLaw m Ls hd) (hL : LsOk Ls) (hf : FrT tx m m') (htx : Ls.length ≤ tx) : MLaw m' Ls hd := by
  obtain ⟨a1, a2, a3⟩ := h
  refine ⟨by rw [hf.2.1 13 (by decide) (by decide) (by decide) (by decide)]; exact a1, by rw [hf.2.1 32 (by decide) (by decide) (by decide) (by decide)]; exact a2, fun i hi => ?_⟩
  obtain ⟨b1, b2⟩ := a3 i hi
  have hw : LwOk (lw Ls i) := hL.2 _ (by
    unfold lw
    rw [List.getD_eq_getElem?_getD, List.getElem?_eq_getElem hi]
    exact List.getElem_mem hi)
  have hcd : cdN (lw Ls i) ≤ 500 := hw.2.2
  have hl := hw.2.1
  refine ⟨by rw [(hf.2.2.1 i (by omega)).2]; exact b1, MlCl_cg _ 0 0 b2 (fun j h1 h2 => hf.2.2.2.2 j (by omega)) (fun j h1 h2 => hf.2.2.2.1 j (by omega))⟩
/-- the reference's readers -/
theorem MW.scr {m' : Mm} (h : MW m A) (hL : LsOk (abW A)) (hf : Fr [83, 85, 86, 87, 88, 89, 90, 91, 94, 95, 96, 97] m m') (hk : ∀ k, k ≠ 3 → k ≠ 4 → k ≠ 5 → k ≠ 14 → k ≠ 21 → k ≠ 22 → k ≠ 23 → m' 83 k = m 83 k) (hlaw : MLaw m' (abW A) (abH A)) : MW m' A := by
  obtain ⟨a1, a2, a3, a4, a5, a6, a7, a8, a9⟩ := h
  have k : ∀ j, (j = 2 ∨ j = 13 ∨ j = 27 ∨ j = 28 ∨ j = 29 ∨ j = 32 ∨ j = 33 ∨ j = 36 ∨ j = 48 ∨ j = 52) → m' 83 j = m 83 j := fun j hj => hk j (by omega) (by omega) (by omega) (by omega) (by omega) (by omega) (by omega)
  unfold MW
  rw [k 2 (by omega), k 33 (by omega), k 48 (by omega), hf 84 (by decide), hf 100 (by decide), hf 102 (by decide), hf 107 (by decide), hf 108 (by decide), hf 109 (by decide)]
  refine ⟨a1, ?_, a3, hlaw, ?_, ?_, a7, a8, a9⟩
  · unfold kM at a2 ⊢
    rw [hf 98 (by decide), hf 99 (by decide), k 27 (by omega), k 28 (by omega), k 29 (by omega)]
    exact a2
  · unfold MR at a5 ⊢
    rw [k 36 (by omega), hf 101 (by decide), hf 103 (by decide)]
    exact a5
  · unfold MIm at a6 ⊢
    rw [k 52 (by omega), hf 112 (by decide)]
    exact a6
theorem MW.frQ {m' : Mm} (h : MW m A) (hL : LsOk (abW A)) (hf : FrQ m m') : MW m' A := h.scr hL (hf.1.wd (by decide)) (fun k a b _ _ e f g => hf.2 k a b e f g) (h.2.2.2.1.cg (hf.2 13 (by decide) (by decide) (by decide) (by decide) (by decide)) (hf.2 32 (by decide) (by decide) (by decide) (by decide) (by decide)) (fun a x y => hf.1 a (by simp; omega)))
theorem MW.frT {m' : Mm} {tx : Int} (h : MW m A) (hL : LsOk (abW A)) (hf : FrT tx m m') (htx : (abW A).length ≤ tx) : MW m' A := h.scr hL (hf.1.wd (by decide)) (fun k a b c e _ _ _ => hf.2.1 k a b c e) (MLaw_tx h.2.2.2.1 hL hf htx)
theorem AOk.tok (h : AOk A t) : TOk (abT A) (abS A) := ⟨⟨h.2.1.1, h.2.1.2.1⟩, h.2.1.2.2⟩
theorem FrQ.lo {m m' : Mm} (h : FrQ m m') : loS m m' := fun a ha => h.1 a (by simp; omega)
theorem FrT.lo {tx : Int} {m m' : Mm} (h : FrT tx m m') : loS m m' := fun a ha => h.1 a (by simp; omega)
theorem op_fault (hB : Bsh X.2.2.1) (hB2 : X.2.2.1.length ≤ 1000000) (hfv : X.2.1 = .null ∨ X.2.1 = .ref (aK + 9)) (hI : InvA X m A t) {x : Int} (hx : R3 x) : Bth X A t (V_fault X (d + 60) x) (M_fault X (d + 60) x) m := by
  have hT := hI.2.2.tok
  have hn := hT.1
  have hL : LsOk (abW A) := hI.2.2.2.2.2.2.2.2.2.2.1
  have hpC : TpC (abT A) (abS A) m := hI.1.1
  obtain ⟨c, c2, b1, b2, b3, b4, b5, -⟩ := hI.1.2.1
  by_cases z0 : x = 0
  · -- a canton
    obtain ⟨r, hr⟩ : ∃ r, r = cnP (abT A) (abS A) 241 0 (cs0 (m 94) (m 95) (m 96) (m 97)) := ⟨_, rfl⟩
    have hrr := cnP_r hT 241 0 (cs0 (m 94) (m 95) (m 96) (m 97)) (by decide) hn.1 (cs0_ok _ _ _ _)
    rw [← hr] at hrr
    have main : ∀ F : Int, (r.1 = false → F = r.2.1) → (r.1 = true → whP r.2.2 → F = -1) → (r.1 = true → ¬ whP r.2.2 → F = abS A) → Bth X A t (V_fault X (d + 60) x) (M_fault X (d + 60) x) m := by
      intro F h1 h2 h3
      refine bth_of2 (F := F) hI (fun Q h => ?_) (fun m1 Q hhi hM h => ?_)
      · have fin : ∀ m', Fr (drL c2) m m' → Q F m' := fun m' hf => h m' (hI.1.up.scr b5 (hf.wd (by simp))) (fun a ha => hf a (by simp; omega))
        refine V_faultw hB ⟨hx, fun q => absurd z0 q, fun _ => ⟨c2, b2, b5, R_read_c (d := d + 52) (R := m 94) (B := m 95) (I := m 96) (M := m 97) hB hB2 hfv hT b2 hpC (fun r' m' hr' hf => ?_)⟩⟩
        rw [← hr] at hr'
        subst hr'
        exact ⟨fun e => by rw [← h1 e]; exact fin m' hf, fun e w _ => by rw [← h2 e w]; exact fin m' hf, fun e w => by rw [← h3 e w]; exact fin m' hf⟩
      · have fin : ∀ m', FrQ m1 m' → Q F m' := fun m' hf => h m' (hM.frQ hL hf) hf.lo
        refine M_faultw hB ⟨hx, fun q => absurd z0 q, fun _ => M_readCanton_c (d := d + 52) hB hT hM.1 (fun r' m' hr' hf => ?_)⟩
        rw [hhi 94 (by decide), hhi 95 (by decide), hhi 96 (by decide), hhi 97 (by decide), ← hr] at hr'
        subst hr'
        exact ⟨fun e => by rw [← h1 e]; exact fin m' hf, fun e w _ => by rw [← h2 e w]; exact fin m' hf, fun e w => by rw [← h3 e w]; exact fin m' hf⟩
    cases hb : r.1 with
    | false => exact main r.2.1 (fun _ => rfl) (fun e => by rw [hb] at e; cases e) (fun e => by rw [hb] at e; cases e)
    | true =>
      by_cases hw : whP r.2.2
      · exact main (-1) (fun e => by rw [hb] at e; cases e) (fun _ _ => rfl) (fun _ q => absurd hw q)
      · exact main (abS A) (fun e => by rw [hb] at e; cases e) (fun _ q => absurd q hw) (fun _ _ => rfl)
  · by_cases z1 : x = 1
    · refine bth_of (F := if (lwP (abT A) (abS A) 241 0 []).1 = true then -1 else (lwP (abT A) (abS A) 241 0 []).2.1) hI (fun Q h => ?_) (fun m1 Q hM h => ?_)
      · refine V_faultw hB ⟨hx, fun _ => ⟨fun q => absurd z1 q, fun _ => P_read_c (d := d + 27) hB hB2 hT hpC (fun m' hf _ => h m' (hI.1.up.scr b5 (hf.wd (by simp))) (fun a ha => hf a (by simp; omega)))⟩, fun q => absurd q z0⟩
      · refine M_faultw hB ⟨hx, fun _ => ⟨fun q => absurd z1 q, fun _ => M_readLaw_c (d := d + 18) (tx := 4) hB hT (by decide) hM.1 (fun m' hf _ => h m' (hM.frT hL hf (by have := hL.1; omega)) hf.lo)⟩, fun q => absurd q z0⟩
    · refine bth_of (F := -2) hI (fun Q h => ?_) (fun m1 Q hM h => ?_)
      · exact V_faultw hB ⟨hx, fun _ => ⟨fun _ => h m hI.1.up (fun _ _ => rfl), fun q => absurd q z1⟩, fun q => absurd q z0⟩
      · exact M_faultw hB ⟨hx, fun _ => ⟨fun _ => h m1 hM (fun _ _ => rfl), fun q => absurd q z1⟩, fun q => absurd q z0⟩
/-! rows of text -/
theorem V_takeCanton_w (hB : Bsh X.2.2.1) {c c2 : Nat} (hc : cO c) (hc2 : cO c2) (h6 : m 0 6 = (c : Int)) (h7 : m 0 7 = (c2 : Int)) (h : T_begin X d 17 c2 (up (up (up m 0 7 (c : Int)) 0 6 (c2 : Int)) 18 0 (c2 : Int)) (fun m31 => H_forget X d m31 (fun m38 => (m38 0 6 = (c2 : Int)) ∧ Q (m38 c2 4) (up (up m38 73 0 0) 1 1 0)))) : V_takeCanton X (d + 1) m Q := by
  unfold V_takeCanton
  have hV : Clo (gP X.1 X.2.1) (d + 1) 158 2 false (Rq (gP X.1 X.2.1) (d + 1) 158 X.2.2.1 X.2.2.2 Q) := Rq_clo (q := mI158) rfl
  have hcs := csh_of hB hc2
  refine r_aload_n hV rfl rfl (pc' := 1) rfl ?_
  refine tt_getP hV (tg := 0) (ci := 11) (kf := 7) rfl rfl (by decide) (hB _ _ rfl) rfl (by decide) (b := c2) h7 (pc' := 4) rfl ?_
  refine tt_astore1 hV rfl rfl (pc' := 5) rfl ?_
  refine r_aload_n hV rfl rfl (pc' := 6) rfl ?_
  refine r_aload_n hV rfl rfl (pc' := 7) rfl ?_
  refine tt_getP hV (tg := 0) (ci := 11) (kf := 6) rfl rfl (by decide) (hB _ _ rfl) rfl (by decide) (b := c) h6 (pc' := 10) rfl ?_
  refine tt_putP hV (tg := 0) (ci := 11) (kf := 7) rfl rfl (Or.inl rfl) (hB _ _ rfl) rfl (by decide) rfl (pc' := 13) rfl ?_
  refine r_aload_n hV rfl rfl (pc' := 14) rfl ?_
  refine r_aload_n hV rfl rfl (pc' := 15) rfl ?_
  refine tt_putP hV (tg := 0) (ci := 11) (kf := 6) rfl rfl (Or.inl rfl) (hB _ _ rfl) rfl (by decide) rfl (pc' := 18) rfl ?_
  refine r_aload_n hV rfl rfl (pc' := 19) rfl ?_
  refine tt_getR hV (tg := 6) (ci := 11) (kf := 9) rfl rfl (by decide) (hB _ _ rfl) rfl (by decide) (pc' := 22) rfl ?_
  refine r_aload_n hV rfl rfl (pc' := 23) rfl ?_
  refine tt_putP hV (tg := 0) (ci := 7) (kf := 0) rfl rfl (Or.inl rfl) (hB _ _ rfl) rfl (by decide) rfl (pc' := 26) rfl ?_
  refine r_aload_n hV rfl rfl (pc' := 27) rfl ?_
  refine tt_getR hV (tg := 6) (ci := 11) (kf := 8) rfl rfl (by decide) (hB _ _ rfl) rfl (by decide) (pc' := 30) rfl ?_
  refine r_aload_n hV rfl rfl (pc' := 31) rfl ?_
  obtain ⟨m31, h, hr⟩ := h
  refine tt_cv1U hV rfl rfl rfl (Wd_obj (hB _ _ rfl)) (Nat.le_of_ble_eq_true rfl) (Nat.le_of_ble_eq_true rfl) rfl hr (pc' := 34) rfl ?_
  refine r_aload_n hV rfl rfl (pc' := 35) rfl ?_
  refine tt_getR hV (tg := 6) (ci := 11) (kf := 10) rfl rfl (by decide) (hB _ _ rfl) rfl (by decide) (pc' := 38) rfl ?_
  obtain ⟨m38, h, hr⟩ := h
  refine tt_cv0U hV rfl rfl rfl (Wd_obj (hB _ _ rfl)) (Nat.le_of_ble_eq_true rfl) (Nat.le_of_ble_eq_true rfl) rfl hr (pc' := 41) rfl ?_
  refine r_aload_n hV rfl rfl (pc' := 42) rfl ?_
  refine tt_getR hV (tg := 6) (ci := 11) (kf := 12) rfl rfl (by decide) (hB _ _ rfl) rfl (by decide) (pc' := 45) rfl ?_
  refine tt_iconst hV rfl (pc' := 46) rfl ?_
  refine tt_putI hV (tg := 0) (ci := 10) (kf := 0) rfl rfl (Or.inl rfl) (hB _ _ rfl) rfl (by decide) rfl (pc' := 49) rfl ?_
  refine r_aload_n hV rfl rfl (pc' := 50) rfl ?_
  refine tt_getR hV (tg := 6) (ci := 11) (kf := 0) rfl rfl (by decide) (hB _ _ rfl) rfl (by decide) (pc' := 53) rfl ?_
  refine tt_iconst hV rfl (pc' := 54) rfl ?_
  refine tt_putI hV (tg := 0) (ci := 9) (kf := 1) rfl rfl (Or.inl rfl) (hB _ _ rfl) rfl (by decide) rfl (pc' := 57) rfl ?_
  refine r_aload_n hV rfl rfl (pc' := 58) rfl ?_
  obtain ⟨g3, h⟩ := h
  refine tt_getP hV (tg := 0) (ci := 11) (kf := 6) rfl rfl (by decide) (hB _ _ rfl) rfl (by decide) (b := c2) (((up_ne (Or.inl (by decide))).trans (up_ne (Or.inl (by decide)))).trans g3) (pc' := 61) rfl ?_
  refine tt_getI hV (tg := 0) (ci := 0) (kf := 4) rfl rfl (by decide) hcs.1 rfl (by decide) (pc' := 64) rfl ?_
  refine vtI (y := m38 c2 4) ((up_ne (Or.inl (by omega))).trans (up_ne (Or.inl (by omega)))) ?_
  exact rq_ret (q := mI158) rfl rfl rfl h
def V_text (X : Cx) (d : Nat) (x : Int) (m : Mm) (Q : Int → Mm → Prop) : Prop := Rq (gP X.1 X.2.1) d 115 X.2.2.1 X.2.2.2 Q (0, [some (.ref 0), some (vI x)], [], Wd X.2.2.1 m, X.2.2.2)
/-- where no law is made -/
theorem V_text_w (hB : Bsh X.2.2.1) {x : Int} (hx : R3 x) (h0 : x = 0 → ∃ c2 : Nat, cO c2 ∧ m 0 7 = (c2 : Int) ∧ R_read X d c2 m (fun v m1 => R3 v ∧ (v = -1 → V_takeCanton X d m1 Q) ∧ (v ≠ -1 → Q (-1) m1))) (h1 : x = 1 → R3 (m 0 4) ∧ (4 ≤ m 0 4 → Q (-1) m) ∧ (m 0 4 < 4 → P_read X d m (fun v m1 => R3 v ∧ v ≠ -1 ∧ Q (-1) m1))) (h2 : x ≠ 0 → x ≠ 1 → Q (-1) m) : V_text X (d + 1) x m Q := by
  unfold V_text
  have hV : Clo (gP X.1 X.2.1) (d + 1) 115 2 false (Rq (gP X.1 X.2.1) (d + 1) 115 X.2.2.1 X.2.2.2 Q) := Rq_clo (q := mI115) rfl
  have no : ∀ m1, Q (-1) m1 → Rq (gP X.1 X.2.1) (d + 1) 115 X.2.2.1 X.2.2.2 Q (53, [some (.ref 0), some (vI x)], [], Wd X.2.2.1 m1, X.2.2.2) := by
    intro m1 hq
    refine tt_iconst hV rfl (pc' := 54) rfl ?_
    exact rq_ret (q := mI115) rfl rfl rfl hq
  refine r_iload_n hV rfl rfl (pc' := 1) rfl ?_
  refine tt_if_ne hV rfl hx (pt := 24) (by decide) (pf := 4) rfl (fun hc => ?_) (fun hc => ?_)
  · refine r_iload_n hV rfl rfl (pc' := 25) rfl ?_
    refine tt_iconst hV rfl (pc' := 26) rfl ?_
    refine tt_icmp_ne hV rfl hx (by decide) (pt := 53) (by decide) (pf := 29) rfl (fun hc2 => no m (h2 hc hc2)) (fun hc2 => ?_)
    obtain ⟨k1, k2, k3⟩ := h1 (Decidable.not_not.mp hc2)
    refine r_aload_n hV rfl rfl (pc' := 30) rfl ?_
    refine tt_getI hV (tg := 0) (ci := 11) (kf := 4) rfl rfl (by decide) (hB _ _ rfl) rfl (by decide) (pc' := 33) rfl ?_
    refine tt_iconst hV rfl (pc' := 34) rfl ?_
    refine tt_icmp_ge hV rfl k1 (by decide) (pt := 53) (by decide) (pf := 37) rfl (fun hc3 => no m (k2 hc3)) (fun hc3 => ?_)
    refine r_aload_n hV rfl rfl (pc' := 38) rfl ?_
    refine tt_getR hV (tg := 6) (ci := 11) (kf := 2) rfl rfl (by decide) (hB _ _ rfl) rfl (by decide) (pc' := 41) rfl ?_
    obtain ⟨v, m1, ⟨q1, q2, q3⟩, hr⟩ := k3 (Int.not_le.mp hc3)
    refine tt_cv0I hV rfl rfl rfl (Wd_obj (hB _ _ rfl)) (Nat.le_of_ble_eq_true rfl) (Nat.le_of_ble_eq_true rfl) rfl hr (pc' := 44) rfl ?_
    refine tt_iconst hV rfl (pc' := 45) rfl ?_
    exact tt_icmp_ne hV rfl q1 (by decide) (pt := 53) (by decide) (pf := 48) rfl (fun _ => no m1 q3) (fun hc4 => absurd q2 hc4)
  · have z0 : x = 0 := Decidable.not_not.mp hc
    obtain ⟨c2, k1, k2, v, m1, ⟨q1, q2, q3⟩, hr⟩ := h0 z0
    refine r_aload_n hV rfl rfl (pc' := 5) rfl ?_
    refine tt_getR hV (tg := 6) (ci := 11) (kf := 1) rfl rfl (by decide) (hB _ _ rfl) rfl (by decide) (pc' := 8) rfl ?_
    refine r_aload_n hV rfl rfl (pc' := 9) rfl ?_
    refine tt_getP hV (tg := 0) (ci := 11) (kf := 7) rfl rfl (by decide) (hB _ _ rfl) rfl (by decide) (b := c2) k2 (pc' := 12) rfl ?_
    refine tt_cv1I hV rfl rfl rfl (Wd_obj (hB _ _ rfl)) (Nat.le_of_ble_eq_true rfl) (Nat.le_of_ble_eq_true rfl) rfl hr (pc' := 15) rfl ?_
    refine tt_iconst hV rfl (pc' := 16) rfl ?_
    refine tt_icmp_ne hV rfl q1 (by decide) (pt := 24) (by decide) (pf := 19) rfl (fun hc4 => ?_) (fun hc4 => ?_)
    · refine r_iload_n hV rfl rfl (pc' := 25) rfl ?_
      refine tt_iconst hV rfl (pc' := 26) rfl ?_
      exact tt_icmp_ne hV rfl hx (by decide) (pt := 53) (by decide) (pf := 29) rfl (fun _ => no m1 (q3 hc4)) (fun hc2 => by omega)
    · obtain ⟨v2, m2, y1, y2⟩ := q2 (Decidable.not_not.mp hc4)
      refine r_aload_n hV rfl rfl (pc' := 20) rfl ?_
      refine tt_cv0I hV rfl rfl rfl (Wd_obj (hB _ _ rfl)) (Nat.le_of_ble_eq_true rfl) (Nat.le_of_ble_eq_true rfl) rfl y2 (pc' := 23) rfl ?_
      exact rq_ret (q := mI115) rfl rfl rfl y1
end Fault
