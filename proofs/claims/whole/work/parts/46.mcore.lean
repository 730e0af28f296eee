/-! ===== the reference's core ===== -/
abbrev Bsh (sh : List Sh) : Prop := ∀ (a : Nat) (s : Sh), bs[a]? = some s → sh[a]? = some s
theorem Wd_obj {sh : List Sh} {m : Mm} {a ci : Nat} {tys : List Nat} (h : sh[a]? = some (.inl (ci, tys))) : (Wd sh m)[a]? = some (some (.inr (ci, mkF tys 0 (m a)))) := Wd_get h
def kM (m : Mm) : Kn := (m 98, m 99, m 83 27, m 83 28, m 83 29)
def wtM (m : Mm) : Int → Int := fun k => m 100 (4 * k)
/-- nothing but these rows changes -/
def Fr (S : List Nat) (m m' : Mm) : Prop := ∀ a, a ∉ S → m' a = m a
theorem Fr.rf (S : List Nat) (m : Mm) : Fr S m m := fun _ _ => rfl
theorem Fr.tr {S : List Nat} {m m1 m2 : Mm} (h : Fr S m m1) (h2 : Fr S m1 m2) : Fr S m m2 := fun a ha => (h2 a ha).trans (h a ha)
theorem Fr.wd {S T : List Nat} {m m1 : Mm} (h : Fr S m m1) (hs : ∀ a ∈ S, a ∈ T) : Fr T m m1 := fun a ha => h a (fun q => ha (hs a q))
theorem Fr.up {S : List Nat} {m m1 : Mm} {a : Nat} {k v : Int} (h : Fr S m m1) (ha : a ∈ S) : Fr S m (up m1 a k v) := fun b hb => by
  have e : b ≠ a := fun e => hb (by rw [e]; exact ha)
  rw [up_off e]
  exact h b hb
/-- the row of laws and what is held of them stays -/
def Lsm (m m' : Mm) : Prop := m' 83 32 = m 83 32 ∧ ∀ a, 85 ≤ a → a ≤ 91 → m' a = m a
theorem Lsm.rf (m : Mm) : Lsm m m := ⟨rfl, fun _ _ _ => rfl⟩
theorem Lsm.tr {m m1 m2 : Mm} (h : Lsm m m1) (h2 : Lsm m1 m2) : Lsm m m2 := ⟨h2.1.trans h.1, fun a x y => (h2.2 a x y).trans (h.2 a x y)⟩
/-- what pushOf of the reference answers -/
def PM (xs : List Int32) (fv : Value) (sh : List Sh) (n : Nat) (m : Mm) (pf : Pf) : Prop := ∀ (d : Nat) (m' : Mm) (k : Int), Lsm m m' → Kok (kM m') → Qok (kM m') (m' 101) → Wok (kM m') (wtM m') → 0 ≤ k → k < m' 83 28 → Rq (gP xs fv) (d + 5) 215 sh n (fun v m2 => v = pushA (m' 83 28) (wtM m') pf (m' 101) k ∧ Fr [92, 93] m' m2) (0, [some (.ref 83), some (vI k), none], [], Wd sh m', n)
theorem PM.ls {xs : List Int32} {fv : Value} {sh : List Sh} {n : Nat} {m m1 : Mm} {pf : Pf} (h : PM xs fv sh n m pf) (hl : Lsm m m1) : PM xs fv sh n m1 pf := fun d m' k q => h d m' k (hl.tr q)
theorem sumTo_r {nm : Int} {wt : Int → Int} {pf : Pf} {q : Int → Int} (hp : Pok pf) (k : Nat) (hq : ∀ j : Nat, j < k → (0 ≤ q j ∧ q j ≤ 2) ∧ 1 ≤ wt j ∧ wt j ≤ 9) : -(99 * (k : Int)) ≤ sumTo nm wt pf q k ∧ sumTo nm wt pf q k ≤ 99 * (k : Int) := by
  induction k with
  | zero => exact ⟨by show _ ≤ (0 : Int); omega, by show (0 : Int) ≤ _; omega⟩
  | succ k ih =>
    have h1 := ih (fun j hj => hq j (by omega))
    obtain ⟨h2, h3, h4⟩ := hq k (by omega)
    have h5 := hp (wt k) (q (6 + k)) (q (12 + k)) (nm - cnt (q 18)) (q 21) (q 22) h3 h4
    have h6 : -99 ≤ (if bit (q 18) k = 0 then (q k - 1) * pushA nm wt pf q k else 0) ∧ (if bit (q 18) k = 0 then (q k - 1) * pushA nm wt pf q k else 0) ≤ 99 := by
      split
      · unfold pushA
        have h7 : q k = 0 ∨ q k = 1 ∨ q k = 2 := by omega
        rcases h7 with e | e | e <;> rw [e] <;> omega
      · omega
    unfold sumTo
    omega
theorem sumA_r {K : Kn} {wt : Int → Int} {pf : Pf} {q : Int → Int} (hp : Pok pf) (hK : Kok K) (hQ : Qok K q) (hW : Wok K wt) : -1188 ≤ sumA K wt pf q ∧ sumA K wt pf q ≤ 1188 := by
  have hn := hK.1
  have h := sumTo_r (nm := kNm K) (wt := wt) (pf := pf) (q := q) hp (kNm K).toNat (fun j hj => ⟨(hQ.1 j (by omega) (by omega)).1, hW j (by omega) (by omega)⟩)
  unfold sumA
  split <;> omega
theorem bumpFrom_r (B : Int → Int) (row col : Int) (f : Nat) (b : Int) (hb : 0 ≤ b) : bumpFrom B row col f b = -1 ∨ (b ≤ bumpFrom B row col f b ∧ bumpFrom B row col f b < b + f ∧ B (4 * bumpFrom B row col f b) = row ∧ B (4 * bumpFrom B row col f b + 1) = col) := by
  induction f generalizing b with
  | zero => exact Or.inl rfl
  | succ f ih =>
    unfold bumpFrom
    split
    next h => exact Or.inr ⟨Int.le_refl _, by omega, h⟩
    next =>
      rcases ih (b + 1) (by omega) with h | h
      · exact Or.inl h
      · exact Or.inr ⟨by omega, by omega, h.2.2⟩
theorem bumpFrom_end (B : Int → Int) (row col nb b : Int) (h : nb ≤ b) : bumpFrom B row col (nb - b).toNat b = -1 := by
  have e : (nb - b).toNat = 0 := by omega
  rw [e]
  rfl
theorem bumpFrom_step (B : Int → Int) (row col nb b : Int) (h : b < nb) : bumpFrom B row col (nb - b).toNat b = if B (4 * b) = row ∧ B (4 * b + 1) = col then b else bumpFrom B row col (nb - (b + 1)).toNat (b + 1) := by
  have e : (nb - b).toNat = (nb - (b + 1)).toNat + 1 := by omega
  rw [e]
  rfl
section Mcore
variable (xs : List Int32) (fv : Value) (d n : Nat)
theorem m_in {w : aW} {v lo hi : Int} (h1 : (-2147483648 ≤ v ∧ v < 2147483648)) (h2 : (-2147483648 ≤ lo ∧ lo < 2147483648)) (h3 : (-2147483648 ≤ hi ∧ hi < 2147483648)) : Ru (gP xs fv) d 163 (some (vI (if lo ≤ v ∧ v ≤ hi then 1 else 0)), w, n) (0, [some (vI v), some (vI lo), some (vI hi)], [], w, n) := by
  have hV : Clo (gP xs fv) d 163 3 false (Ru (gP xs fv) d 163 (some (vI (if lo ≤ v ∧ v ≤ hi then 1 else 0)), w, n)) := Ru_clo (q := mI163) rfl
  refine r_iload_n hV rfl rfl (pc' := 1) rfl ?_
  refine r_iload_n hV rfl rfl (pc' := 2) rfl ?_
  refine tt_icmp_lt hV rfl (by omega) (by omega) (pt := 14) (by decide) (pf := 5) rfl (fun h2 => ?_) (fun h2 => ?_)
  · refine tt_iconst hV rfl (pc' := 15) rfl ?_
    exact v_ret (q := mI163) rfl rfl (by first | rfl | exact sR_bool (by omega)) (vI_c (by omega))
  · refine r_iload_n hV rfl rfl (pc' := 6) rfl ?_
    refine r_iload_n hV rfl rfl (pc' := 7) rfl ?_
    refine tt_icmp_gt hV rfl (by omega) (by omega) (pt := 14) (by decide) (pf := 10) rfl (fun h7 => ?_) (fun h7 => ?_)
    · refine tt_iconst hV rfl (pc' := 15) rfl ?_
      exact v_ret (q := mI163) rfl rfl (by first | rfl | exact sR_bool (by omega)) (vI_c (by omega))
    · refine tt_iconst hV rfl (pc' := 11) rfl ?_
      refine r_goto hV rfl (pc' := 15) (by decide) ?_
      exact v_ret (q := mI163) rfl rfl (by first | rfl | exact sR_bool (by omega)) (vI_c (by omega))
theorem m_has {w : aW} {x k : Int} : Ru (gP xs fv) d 164 (some (vI (bit x k)), w, n) (0, [some (vI x), some (vI k)], [], w, n) := by
  have hV : Clo (gP xs fv) d 164 2 false (Ru (gP xs fv) d 164 (some (vI (bit x k)), w, n)) := Ru_clo (q := mI164) rfl
  refine r_iload_n hV rfl rfl (pc' := 1) rfl ?_
  refine r_iload_n hV rfl rfl (pc' := 2) rfl ?_
  refine tt_ishr hV rfl (pc' := 3) rfl ?_
  refine tt_iconst hV rfl (pc' := 4) rfl ?_
  refine tt_iand hV rfl (pc' := 5) rfl ?_
  refine tt_iconst hV rfl (pc' := 6) rfl ?_
  refine tt_icmp_ne hV rfl (i32R _) (by omega) (pt := 13) (by decide) (pf := 9) rfl (fun h6 => ?_) (fun h6 => ?_)
  · refine tt_iconst hV rfl (pc' := 14) rfl ?_
    exact v_ret (q := mI164) rfl rfl (by first | rfl | exact sR_bool (by omega)) (vI_c (by have := bit01 x k; unfold bit at *; omega))
  · refine tt_iconst hV rfl (pc' := 10) rfl ?_
    refine r_goto hV rfl (pc' := 14) (by decide) ?_
    exact v_ret (q := mI164) rfl rfl (by first | rfl | exact sR_bool (by omega)) (vI_c (by have := bit01 x k; unfold bit at *; omega))
theorem m_of {sh : List Sh} {m : Mm} (hB : Bsh sh) {i k : Int} (h : 0 ≤ 4 * i + k ∧ 4 * i + k < 24) : Ru (gP xs fv) d 209 (some (vI (m 100 (4 * i + k))), Wd sh m, n) (0, [some (.ref 83), some (vI i), some (vI k)], [], Wd sh m, n) := by
  have hV : Clo (gP xs fv) d 209 3 false (Ru (gP xs fv) d 209 (some (vI (m 100 (4 * i + k))), Wd sh m, n)) := Ru_clo (q := mI209) rfl
  refine r_aload_n hV rfl rfl (pc' := 1) rfl ?_
  refine tt_getR hV (tg := 6) (ci := 12) (kf := 26) rfl rfl (by decide) (hB _ _ rfl) rfl (by decide) (pc' := 4) rfl ?_
  refine tt_iconst hV rfl (pc' := 5) rfl ?_
  refine r_iload_n hV rfl rfl (pc' := 6) rfl ?_
  refine tt_imul hV rfl (pc' := 7) rfl ?_
  refine r_iload_n hV rfl rfl (pc' := 8) rfl ?_
  refine tt_iadd hV rfl (pc' := 9) rfl ?_
  refine tt_iald hV rfl (hB _ _ rfl) (by decide) (by omega) (pc' := 10) rfl ?_
  exact v_ret (q := mI209) rfl rfl rfl rfl
theorem m_ofBump {sh : List Sh} {m : Mm} (hB : Bsh sh) {i k : Int} (h : 0 ≤ 4 * i + k ∧ 4 * i + k < 24) : Ru (gP xs fv) d 210 (some (vI (m 99 (4 * i + k))), Wd sh m, n) (0, [some (.ref 83), some (vI i), some (vI k)], [], Wd sh m, n) := by
  have hV : Clo (gP xs fv) d 210 3 false (Ru (gP xs fv) d 210 (some (vI (m 99 (4 * i + k))), Wd sh m, n)) := Ru_clo (q := mI210) rfl
  refine r_aload_n hV rfl rfl (pc' := 1) rfl ?_
  refine tt_getR hV (tg := 6) (ci := 12) (kf := 25) rfl rfl (by decide) (hB _ _ rfl) rfl (by decide) (pc' := 4) rfl ?_
  refine tt_iconst hV rfl (pc' := 5) rfl ?_
  refine r_iload_n hV rfl rfl (pc' := 6) rfl ?_
  refine tt_imul hV rfl (pc' := 7) rfl ?_
  refine r_iload_n hV rfl rfl (pc' := 8) rfl ?_
  refine tt_iadd hV rfl (pc' := 9) rfl ?_
  refine tt_iald hV rfl (hB _ _ rfl) (by decide) (by omega) (pc' := 10) rfl ?_
  exact v_ret (q := mI210) rfl rfl rfl rfl
theorem m_isMember {sh : List Sh} {m : Mm} (hB : Bsh sh) (hn : 0 ≤ m 83 28 ∧ m 83 28 ≤ 6) {i : Int} (h : (-2147483648 ≤ i ∧ i < 2147483648)) : Ru (gP xs fv) (d + 1) 211 (some (vI (if 0 ≤ i ∧ i ≤ m 83 28 - 1 then 1 else 0)), Wd sh m, n) (0, [some (.ref 83), some (vI i)], [], Wd sh m, n) := by
  have hV : Clo (gP xs fv) (d + 1) 211 2 false (Ru (gP xs fv) (d + 1) 211 (some (vI (if 0 ≤ i ∧ i ≤ m 83 28 - 1 then 1 else 0)), Wd sh m, n)) := Ru_clo (q := mI211) rfl
  refine r_iload_n hV rfl rfl (pc' := 1) rfl ?_
  refine tt_iconst hV rfl (pc' := 2) rfl ?_
  refine r_aload_n hV rfl rfl (pc' := 3) rfl ?_
  refine tt_getI hV (tg := 0) (ci := 12) (kf := 28) rfl rfl (by decide) (hB _ _ rfl) rfl (by decide) (pc' := 6) rfl ?_
  refine tt_iconst hV rfl (pc' := 7) rfl ?_
  refine tt_isub hV rfl (pc' := 8) rfl ?_
  refine tt_cs3I hV rfl rfl rfl (Nat.le_of_ble_eq_true rfl) (Nat.le_of_ble_eq_true rfl) rfl (m_in xs fv _ _ (by omega) (by omega) (by omega)) (pc' := 11) rfl ?_
  exact v_ret (q := mI211) rfl rfl (by first | rfl | exact sR_bool (by omega)) rfl
theorem m_isBump {sh : List Sh} {m : Mm} (hB : Bsh sh) (hn : 0 ≤ m 83 27 ∧ m 83 27 ≤ 6) {i : Int} (h : (-2147483648 ≤ i ∧ i < 2147483648)) : Ru (gP xs fv) (d + 1) 212 (some (vI (if 0 ≤ i ∧ i ≤ m 83 27 - 1 then 1 else 0)), Wd sh m, n) (0, [some (.ref 83), some (vI i)], [], Wd sh m, n) := by
  have hV : Clo (gP xs fv) (d + 1) 212 2 false (Ru (gP xs fv) (d + 1) 212 (some (vI (if 0 ≤ i ∧ i ≤ m 83 27 - 1 then 1 else 0)), Wd sh m, n)) := Ru_clo (q := mI212) rfl
  refine r_iload_n hV rfl rfl (pc' := 1) rfl ?_
  refine tt_iconst hV rfl (pc' := 2) rfl ?_
  refine r_aload_n hV rfl rfl (pc' := 3) rfl ?_
  refine tt_getI hV (tg := 0) (ci := 12) (kf := 27) rfl rfl (by decide) (hB _ _ rfl) rfl (by decide) (pc' := 6) rfl ?_
  refine tt_iconst hV rfl (pc' := 7) rfl ?_
  refine tt_isub hV rfl (pc' := 8) rfl ?_
  refine tt_cs3I hV rfl rfl rfl (Nat.le_of_ble_eq_true rfl) (Nat.le_of_ble_eq_true rfl) rfl (m_in xs fv _ _ (by omega) (by omega) (by omega)) (pc' := 11) rfl ?_
  exact v_ret (q := mI212) rfl rfl (by first | rfl | exact sR_bool (by omega)) rfl
theorem m_isOn {sh : List Sh} {m : Mm} (hB : Bsh sh) {i : Int} : Ru (gP xs fv) (d + 1) 213 (some (vI (1 - bit (m 101 18) i)), Wd sh m, n) (0, [some (.ref 83), some (vI i)], [], Wd sh m, n) := by
  have hV : Clo (gP xs fv) (d + 1) 213 2 false (Ru (gP xs fv) (d + 1) 213 (some (vI (1 - bit (m 101 18) i)), Wd sh m, n)) := Ru_clo (q := mI213) rfl
  refine r_aload_n hV rfl rfl (pc' := 1) rfl ?_
  refine tt_getR hV (tg := 6) (ci := 12) (kf := 30) rfl rfl (by decide) (hB _ _ rfl) rfl (by decide) (pc' := 4) rfl ?_
  refine tt_bipush hV rfl (by decide) (pc' := 6) rfl ?_
  refine tt_iald hV rfl (hB _ _ rfl) (by decide) (by omega) (pc' := 7) rfl ?_
  refine r_iload_n hV rfl rfl (pc' := 8) rfl ?_
  refine tt_cs2I hV rfl rfl rfl (Nat.le_of_ble_eq_true rfl) (Nat.le_of_ble_eq_true rfl) rfl (m_has xs fv _ _) (pc' := 11) rfl ?_
  refine tt_if_ne hV rfl (by have := bit01 (m 101 18) i; omega) (pt := 18) (by decide) (pf := 14) rfl (fun h11 => ?_) (fun h11 => ?_)
  · refine tt_iconst hV rfl (pc' := 19) rfl ?_
    exact v_ret (q := mI213) rfl rfl (by first | rfl | exact sR_bool (by omega)) (vI_c (by have := bit01 (m 101 18) i; omega))
  · refine tt_iconst hV rfl (pc' := 15) rfl ?_
    refine r_goto hV rfl (pc' := 19) (by decide) ?_
    exact v_ret (q := mI213) rfl rfl (by first | rfl | exact sR_bool (by omega)) (vI_c (by have := bit01 (m 101 18) i; omega))
theorem m_everybody {sh : List Sh} {m : Mm} (hB : Bsh sh) : Ru (gP xs fv) d 214 (some (vI (iSl 1 (m 83 28) - 1)), Wd sh m, n) (0, [some (.ref 83)], [], Wd sh m, n) := by
  have hV : Clo (gP xs fv) d 214 1 false (Ru (gP xs fv) d 214 (some (vI (iSl 1 (m 83 28) - 1)), Wd sh m, n)) := Ru_clo (q := mI214) rfl
  refine tt_iconst hV rfl (pc' := 1) rfl ?_
  refine r_aload_n hV rfl rfl (pc' := 2) rfl ?_
  refine tt_getI hV (tg := 0) (ci := 12) (kf := 28) rfl rfl (by decide) (hB _ _ rfl) rfl (by decide) (pc' := 5) rfl ?_
  refine tt_ishl hV rfl (pc' := 6) rfl ?_
  refine tt_iconst hV rfl (pc' := 7) rfl ?_
  refine tt_isub hV rfl (pc' := 8) rfl ?_
  exact v_ret (q := mI214) rfl rfl rfl rfl
theorem m_aside {sh : List Sh} {m : Mm} (hB : Bsh sh) (hw : 0 ≤ m 98 0 ∧ m 98 0 ≤ 9) {c y : Int} (h : -1000 ≤ c ∧ c ≤ 1000) (h2 : -1000 ≤ y ∧ y ≤ 1000) : Ru (gP xs fv) (d + 1) 217 (some (vI (asideA (m 98 0) c y)), Wd sh m, n) (0, [some (.ref 83), some (vI c), some (vI y)], [], Wd sh m, n) := by
  have hV : Clo (gP xs fv) (d + 1) 217 3 false (Ru (gP xs fv) (d + 1) 217 (some (vI (asideA (m 98 0) c y)), Wd sh m, n)) := Ru_clo (q := mI217) rfl
  refine r_iload_n hV rfl rfl (pc' := 1) rfl ?_
  refine r_iload_n hV rfl rfl (pc' := 2) rfl ?_
  refine tt_iadd hV rfl (pc' := 3) rfl ?_
  refine tt_iconst hV rfl (pc' := 4) rfl ?_
  refine r_aload_n hV rfl rfl (pc' := 5) rfl ?_
  refine tt_getR hV (tg := 6) (ci := 12) (kf := 24) rfl rfl (by decide) (hB _ _ rfl) rfl (by decide) (pc' := 8) rfl ?_
  refine tt_iconst hV rfl (pc' := 9) rfl ?_
  refine tt_iald hV rfl (hB _ _ rfl) (by decide) (by omega) (pc' := 10) rfl ?_
  refine tt_iconst hV rfl (pc' := 11) rfl ?_
  refine tt_isub hV rfl (pc' := 12) rfl ?_
  refine tt_cs3I hV rfl rfl rfl (Nat.le_of_ble_eq_true rfl) (Nat.le_of_ble_eq_true rfl) rfl (m_in xs fv _ _ (by omega) (by omega) (by omega)) (pc' := 15) rfl ?_
  refine tt_if_eq hV rfl (by omega) (pt := 24) (by decide) (pf := 18) rfl (fun h15 => ?_) (fun h15 => ?_)
  · refine r_iload_n hV rfl rfl (pc' := 25) rfl ?_
    exact v_ret (q := mI217) rfl rfl rfl (vI_c (by unfold asideA; omega))
  · refine r_iload_n hV rfl rfl (pc' := 19) rfl ?_
    refine r_iload_n hV rfl rfl (pc' := 20) rfl ?_
    refine tt_iadd hV rfl (pc' := 21) rfl ?_
    refine r_goto hV rfl (pc' := 25) (by decide) ?_
    exact v_ret (q := mI217) rfl rfl rfl (vI_c (by unfold asideA; omega))
theorem m_isLast {sh : List Sh} {m : Mm} (hB : Bsh sh) (h : 0 ≤ m 101 21 ∧ m 101 21 ≤ 1000) (h2 : 0 ≤ m 98 3 ∧ m 98 3 ≤ 1000) : Ru (gP xs fv) d 220 (some (vI (if m 101 21 = m 98 3 then 1 else 0)), Wd sh m, n) (0, [some (.ref 83)], [], Wd sh m, n) := by
  have hV : Clo (gP xs fv) d 220 1 false (Ru (gP xs fv) d 220 (some (vI (if m 101 21 = m 98 3 then 1 else 0)), Wd sh m, n)) := Ru_clo (q := mI220) rfl
  refine r_aload_n hV rfl rfl (pc' := 1) rfl ?_
  refine tt_getR hV (tg := 6) (ci := 12) (kf := 30) rfl rfl (by decide) (hB _ _ rfl) rfl (by decide) (pc' := 4) rfl ?_
  refine tt_bipush hV rfl (by decide) (pc' := 6) rfl ?_
  refine tt_iald hV rfl (hB _ _ rfl) (by decide) (by omega) (pc' := 7) rfl ?_
  refine r_aload_n hV rfl rfl (pc' := 8) rfl ?_
  refine tt_getR hV (tg := 6) (ci := 12) (kf := 24) rfl rfl (by decide) (hB _ _ rfl) rfl (by decide) (pc' := 11) rfl ?_
  refine tt_iconst hV rfl (pc' := 12) rfl ?_
  refine tt_iald hV rfl (hB _ _ rfl) (by decide) (by omega) (pc' := 13) rfl ?_
  refine tt_icmp_ne hV rfl (by omega) (by omega) (pt := 20) (by decide) (pf := 16) rfl (fun h13 => ?_) (fun h13 => ?_)
  · refine tt_iconst hV rfl (pc' := 21) rfl ?_
    exact v_ret (q := mI220) rfl rfl (by first | rfl | exact sR_bool (by omega)) (vI_c (by omega))
  · refine tt_iconst hV rfl (pc' := 17) rfl ?_
    refine r_goto hV rfl (pc' := 21) (by decide) ?_
    exact v_ret (q := mI220) rfl rfl (by first | rfl | exact sR_bool (by omega)) (vI_c (by omega))
theorem iDv_e {x y : Int} (hx : 0 ≤ x ∧ x < 2147483648) (hy : 0 < y ∧ y < 2147483648) : iDv x y = x / y := by
  unfold iDv
  rw [Int32.toInt_div_of_ne_right _ _ (by rw [show (-1 : Int32) = Int32.ofInt (-1) from rfl]; intro e; have := (i32_eq (x := y) (y := -1) (by omega) (by omega)).mp e; omega), i32_r (by omega), i32_r (by omega)]
  exact Int.tdiv_eq_ediv_of_nonneg hx.1
theorem m_sideOf {sh : List Sh} {m : Mm} (hB : Bsh sh) (hw : 3 ≤ m 98 0 ∧ m 98 0 ≤ 9) {c : Int} (h : -1000 ≤ c ∧ c ≤ 1000) : Ru (gP xs fv) d 223 (some (vI (sideA (kM m) c)), Wd sh m, n) (0, [some (.ref 83), some (vI c)], [], Wd sh m, n) := by
  have hV : Clo (gP xs fv) d 223 2 false (Ru (gP xs fv) d 223 (some (vI (sideA (kM m) c)), Wd sh m, n)) := Ru_clo (q := mI223) rfl
  refine r_iload_n hV rfl rfl (pc' := 1) rfl ?_
  refine r_aload_n hV rfl rfl (pc' := 2) rfl ?_
  refine tt_getR hV (tg := 6) (ci := 12) (kf := 24) rfl rfl (by decide) (hB _ _ rfl) rfl (by decide) (pc' := 5) rfl ?_
  refine tt_iconst hV rfl (pc' := 6) rfl ?_
  refine tt_iald hV rfl (hB _ _ rfl) (by decide) (by omega) (pc' := 7) rfl ?_
  refine tt_iconst hV rfl (pc' := 8) rfl ?_
  refine tt_idiv hV rfl (by decide) (pc' := 9) rfl ?_
  refine tt_icmp_ge hV rfl (by first | omega | exact i32R _) (by first | omega | exact i32R _) (pt := 16) (by decide) (pf := 12) rfl (fun h9 => ?_) (fun h9 => ?_)
  · refine r_iload_n hV rfl rfl (pc' := 17) rfl ?_
    refine r_aload_n hV rfl rfl (pc' := 18) rfl ?_
    refine tt_getR hV (tg := 6) (ci := 12) (kf := 24) rfl rfl (by decide) (hB _ _ rfl) rfl (by decide) (pc' := 21) rfl ?_
    refine tt_iconst hV rfl (pc' := 22) rfl ?_
    refine tt_iald hV rfl (hB _ _ rfl) (by decide) (by omega) (pc' := 23) rfl ?_
    refine tt_iconst hV rfl (pc' := 24) rfl ?_
    refine tt_isub hV rfl (pc' := 25) rfl ?_
    refine tt_iconst hV rfl (pc' := 26) rfl ?_
    refine tt_idiv hV rfl (by decide) (pc' := 27) rfl ?_
    refine tt_icmp_le hV rfl (by first | omega | exact i32R _) (by first | omega | exact i32R _) (pt := 34) (by decide) (pf := 30) rfl (fun h27 => ?_) (fun h27 => ?_)
    · refine tt_iconst hV rfl (pc' := 35) rfl ?_
      exact v_ret (q := mI223) rfl rfl rfl (vI_c (by have e1 : iDv (m 98 0) 2 = m 98 0 / 2 := iDv_e (by omega) (by omega); have e2 : iDv (m 98 0 - 1) 2 = (m 98 0 - 1) / 2 := iDv_e (by omega) (by omega); show (if c < m 98 0 / 2 then 0 else if (m 98 0 - 1) / 2 < c then 2 else 1) = _; omega))
    · refine tt_iconst hV rfl (pc' := 31) rfl ?_
      refine r_goto hV rfl (pc' := 35) (by decide) ?_
      exact v_ret (q := mI223) rfl rfl rfl (vI_c (by have e1 : iDv (m 98 0) 2 = m 98 0 / 2 := iDv_e (by omega) (by omega); have e2 : iDv (m 98 0 - 1) 2 = (m 98 0 - 1) / 2 := iDv_e (by omega) (by omega); show (if c < m 98 0 / 2 then 0 else if (m 98 0 - 1) / 2 < c then 2 else 1) = _; omega))
  · refine tt_iconst hV rfl (pc' := 13) rfl ?_
    refine r_goto hV rfl (pc' := 35) (by decide) ?_
    exact v_ret (q := mI223) rfl rfl rfl (vI_c (by have e1 : iDv (m 98 0) 2 = m 98 0 / 2 := iDv_e (by omega) (by omega); have e2 : iDv (m 98 0 - 1) 2 = (m 98 0 - 1) / 2 := iDv_e (by omega) (by omega); show (if c < m 98 0 / 2 then 0 else if (m 98 0 - 1) / 2 < c then 2 else 1) = _; omega))
theorem m_bumpHere {sh : List Sh} {m : Mm} (hB : Bsh sh) (hK : Kok (kM m)) (hr : 0 ≤ m 101 21 ∧ m 101 21 ≤ 1000) (hc : 0 ≤ m 101 22 ∧ m 101 22 ≤ 1000) : Ru (gP xs fv) (d + 1) 218 (some (vI (bumpA (kM m) (m 101 21) (m 101 22))), Wd sh m, n) (0, [some (.ref 83), none], [], Wd sh m, n) := by
  obtain ⟨tot, ht⟩ : ∃ tot, tot = bumpA (kM m) (m 101 21) (m 101 22) := ⟨_, rfl⟩
  rw [← ht]
  have hnb : 0 ≤ m 83 27 ∧ m 83 27 ≤ 6 := hK.2.1
  have hV : Clo (gP xs fv) (d + 1) 218 2 false (Ru (gP xs fv) (d + 1) 218 (some (vI tot), Wd sh m, n)) := Ru_clo (q := mI218) rfl
  have LP : ∀ (f : Nat) (b : Int), 0 ≤ b → b ≤ m 83 27 → m 83 27 - b < f → bumpFrom (m 99) (m 101 21) (m 101 22) (m 83 27 - b).toNat b = tot → Ru (gP xs fv) (d + 1) 218 (some (vI tot), Wd sh m, n) (2, [some (.ref 83), some (vI b)], [], Wd sh m, n) := by
    intro f
    induction f with
    | zero => intro b h1 h2 h3 h4; omega
    | succ f ih =>
      intro b h1 h2 h3 h4
      refine r_iload_n hV rfl rfl (pc' := 3) rfl ?_
      refine r_aload_n hV rfl rfl (pc' := 4) rfl ?_
      refine tt_getI hV (tg := 0) (ci := 12) (kf := 27) rfl rfl (by decide) (hB _ _ rfl) rfl (by decide) (pc' := 7) rfl ?_
      refine tt_icmp_ge hV rfl (by omega) (by omega) (pt := 50) (by decide) (pf := 10) rfl (fun h7 => ?_) (fun h7 => ?_)
      · rw [bumpFrom_end _ _ _ _ _ h7] at h4
        refine tt_iconst hV rfl (pc' := 51) rfl ?_
        exact v_ret (q := mI218) rfl rfl rfl (by rw [← h4])
      · rw [bumpFrom_step _ _ _ _ _ (by omega)] at h4
        have hk : (1 ≤ m 99 (4 * b) ∧ m 99 (4 * b) ≤ 20) ∧ (0 ≤ m 99 (4 * b + 1) ∧ m 99 (4 * b + 1) < m 98 0) ∧ _ := hK.2.2.2.2.2.2.2.2 b h1 (by show b < m 83 27; omega)
        have hwd : 3 ≤ m 98 0 ∧ m 98 0 ≤ 9 := hK.2.2.1
        refine r_aload_n hV rfl rfl (pc' := 11) rfl ?_
        refine r_iload_n hV rfl rfl (pc' := 12) rfl ?_
        refine tt_iconst hV rfl (pc' := 13) rfl ?_
        refine tt_cv2I hV rfl rfl rfl (Wd_obj (hB _ _ rfl)) (Nat.le_of_ble_eq_true rfl) (Nat.le_of_ble_eq_true rfl) rfl (m_ofBump xs fv _ _ hB (by omega)) (pc' := 16) rfl ?_
        refine r_aload_n hV rfl rfl (pc' := 17) rfl ?_
        refine tt_getR hV (tg := 6) (ci := 12) (kf := 30) rfl rfl (by decide) (hB _ _ rfl) rfl (by decide) (pc' := 20) rfl ?_
        refine tt_bipush hV rfl (by decide) (pc' := 22) rfl ?_
        refine tt_iald hV rfl (hB _ _ rfl) (by decide) (by omega) (pc' := 23) rfl ?_
        refine tt_icmp_ne hV rfl (by rw [Int.add_zero]; omega) (by omega) (pt := 44) (by decide) (pf := 26) rfl (fun h23 => ?_) (fun h23 => ?_)
        · rw [Int.add_zero] at h23
          rw [if_neg (fun e => h23 e.1)] at h4
          refine tt_iinc1 hV rfl rfl (pc' := 47) rfl ?_
          refine r_goto hV rfl (pc' := 2) (by decide) ?_
          exact ih (b + 1) (by omega) (by omega) (by omega) h4
        · rw [Int.add_zero] at h23
          refine r_aload_n hV rfl rfl (pc' := 27) rfl ?_
          refine r_iload_n hV rfl rfl (pc' := 28) rfl ?_
          refine tt_iconst hV rfl (pc' := 29) rfl ?_
          refine tt_cv2I hV rfl rfl rfl (Wd_obj (hB _ _ rfl)) (Nat.le_of_ble_eq_true rfl) (Nat.le_of_ble_eq_true rfl) rfl (m_ofBump xs fv _ _ hB (by omega)) (pc' := 32) rfl ?_
          refine r_aload_n hV rfl rfl (pc' := 33) rfl ?_
          refine tt_getR hV (tg := 6) (ci := 12) (kf := 30) rfl rfl (by decide) (hB _ _ rfl) rfl (by decide) (pc' := 36) rfl ?_
          refine tt_bipush hV rfl (by decide) (pc' := 38) rfl ?_
          refine tt_iald hV rfl (hB _ _ rfl) (by decide) (by omega) (pc' := 39) rfl ?_
          refine tt_icmp_ne hV rfl (by omega) (by omega) (pt := 44) (by decide) (pf := 42) rfl (fun h39 => ?_) (fun h39 => ?_)
          · rw [if_neg (fun e => h39 e.2)] at h4
            refine tt_iinc1 hV rfl rfl (pc' := 47) rfl ?_
            refine r_goto hV rfl (pc' := 2) (by decide) ?_
            exact ih (b + 1) (by omega) (by omega) (by omega) h4
          · rw [if_pos ⟨by omega, by omega⟩] at h4
            refine r_iload_n hV rfl rfl (pc' := 43) rfl ?_
            exact v_ret (q := mI218) rfl rfl rfl (by rw [h4])
  refine tt_iconst hV rfl (pc' := 1) rfl ?_
  refine tt_istore1 hV rfl rfl (pc' := 2) rfl ?_
  exact LP ((m 83 27).toNat + 1) 0 (by omega) (by omega) (by omega) (by rw [ht]; show bumpFrom _ _ _ (m 83 27 - 0).toNat 0 = bumpFrom _ _ _ (m 83 27).toNat 0; rw [Int.sub_zero]; rfl)
theorem m_sumNow {sh : List Sh} {m : Mm} (hB : Bsh sh) {pf : Pf} (hP : PM xs fv sh n m pf) (hK : Kok (kM m)) (hQ : Qok (kM m) (m 101)) (hW : Wok (kM m) (wtM m)) : Rq (gP xs fv) (d + 6) 216 sh n (fun v m2 => v = sumA (kM m) (wtM m) pf (m 101) ∧ Fr [92, 93] m m2) (0, [some (.ref 83), none, none], [], Wd sh m, n) := by
  have hn : 1 ≤ m 83 28 ∧ m 83 28 ≤ 6 := hK.1
  have hV : Clo (gP xs fv) (d + 6) 216 3 false (Rq (gP xs fv) (d + 6) 216 sh n (fun v m2 => v = sumA (kM m) (wtM m) pf (m 101) ∧ Fr [92, 93] m m2)) := Rq_clo (q := mI216) rfl
  have LP : ∀ (f k : Nat) (kk acc : Int) (m1 : Mm), kk = k → acc = sumTo (m 83 28) (wtM m) pf (m 101) k → Fr [92, 93] m m1 → kk ≤ m 83 28 → m 83 28 - kk < f → Rq (gP xs fv) (d + 6) 216 sh n (fun v m2 => v = sumA (kM m) (wtM m) pf (m 101) ∧ Fr [92, 93] m m2) (4, [some (.ref 83), some (vI acc), some (vI kk)], [], Wd sh m1, n) := by
    intro f
    induction f with
    | zero => intro k kk acc m1 hk ha h1 h2 h3; omega
    | succ f ih =>
      intro k kk acc m1 hk ha h1 h2 h3
      have e83 : m1 83 = m 83 := h1 83 (by decide)
      have e101 : m1 101 = m 101 := h1 101 (by decide)
      have eK : kM m1 = kM m := by unfold kM; rw [e83, h1 98 (by decide), h1 99 (by decide)]
      have eW : wtM m1 = wtM m := by unfold wtM; rw [h1 100 (by decide)]
      have e28 : m1 83 28 = m 83 28 := by rw [e83]
      have hb := bit01 (m 101 18) kk
      have hb1 : bit (m1 101 18) kk = bit (m 101 18) kk := by rw [e101]
      have hb2 := bit01 (m 83 29) (m 101 21)
      have hb3 : bit (m1 83 29) (m1 101 21) = bit (m 83 29) (m 101 21) := by rw [e83, e101]
      refine r_iload_n hV rfl rfl (pc' := 5) rfl ?_
      refine r_aload_n hV rfl rfl (pc' := 6) rfl ?_
      refine tt_getI hV (tg := 0) (ci := 12) (kf := 28) rfl rfl (by decide) (hB _ _ rfl) rfl (by decide) (pc' := 9) rfl ?_
      refine tt_icmp_ge hV rfl (by omega) (by omega) (pt := 49) (by decide) (pf := 12) rfl (fun h9 => ?_) (fun h9 => ?_)
      · refine r_aload_n hV rfl rfl (pc' := 50) rfl ?_
        refine tt_getI hV (tg := 0) (ci := 12) (kf := 29) rfl rfl (by decide) (hB _ _ rfl) rfl (by decide) (pc' := 53) rfl ?_
        refine r_aload_n hV rfl rfl (pc' := 54) rfl ?_
        refine tt_getR hV (tg := 6) (ci := 12) (kf := 30) rfl rfl (by decide) (hB _ _ rfl) rfl (by decide) (pc' := 57) rfl ?_
        refine tt_bipush hV rfl (by decide) (pc' := 59) rfl ?_
        refine tt_iald hV rfl (hB _ _ rfl) (by decide) (by omega) (pc' := 60) rfl ?_
        refine tt_cs2I hV rfl rfl rfl (Nat.le_of_ble_eq_true rfl) (Nat.le_of_ble_eq_true rfl) rfl (m_has xs fv _ _) (pc' := 63) rfl ?_
        refine tt_if_eq hV rfl (by omega) (pt := 72) (by decide) (pf := 66) rfl (fun h63 => ?_) (fun h63 => ?_)
        · refine r_iload_n hV rfl rfl (pc' := 73) rfl ?_
          have ek : (m 83 28).toNat = k := by omega
          refine rq_ret (q := mI216) rfl rfl rfl ⟨?_, h1⟩
          show _ = if bit (m 83 29) (m 101 21) = 1 then 2 * sumTo (m 83 28) (wtM m) pf (m 101) (m 83 28).toNat else sumTo (m 83 28) (wtM m) pf (m 101) (m 83 28).toNat
          rw [ek, ← ha]
          omega
        · refine tt_iconst hV rfl (pc' := 67) rfl ?_
          refine r_iload_n hV rfl rfl (pc' := 68) rfl ?_
          refine tt_imul hV rfl (pc' := 69) rfl ?_
          refine r_goto hV rfl (pc' := 73) (by decide) ?_
          have ek : (m 83 28).toNat = k := by omega
          refine rq_ret (q := mI216) rfl rfl rfl ⟨?_, h1⟩
          show _ = if bit (m 83 29) (m 101 21) = 1 then 2 * sumTo (m 83 28) (wtM m) pf (m 101) (m 83 28).toNat else sumTo (m 83 28) (wtM m) pf (m 101) (m 83 28).toNat
          rw [ek, ← ha]
          omega
      · refine r_iload_n hV rfl rfl (pc' := 13) rfl ?_
        refine r_aload_n hV rfl rfl (pc' := 14) rfl ?_
        refine r_iload_n hV rfl rfl (pc' := 15) rfl ?_
        refine tt_cv1I hV rfl rfl rfl (Wd_obj (hB _ _ rfl)) (Nat.le_of_ble_eq_true rfl) (Nat.le_of_ble_eq_true rfl) rfl (m_isOn xs fv _ _ hB) (pc' := 18) rfl ?_
        refine tt_if_eq hV rfl (by omega) (pt := 40) (by decide) (pf := 21) rfl (fun h18 => ?_) (fun h18 => ?_)
        · refine tt_iconst hV rfl (pc' := 41) rfl ?_
          refine tt_iadd hV rfl (pc' := 42) rfl ?_
          refine tt_istore1 hV rfl rfl (pc' := 43) rfl ?_
          refine tt_iinc2 hV rfl rfl (pc' := 46) rfl ?_
          refine r_goto hV rfl (pc' := 4) (by decide) ?_
          refine ih (k + 1) _ _ _ (by omega) ?_ h1 (by omega) (by omega)
          show _ = sumTo (m 83 28) (wtM m) pf (m 101) k + _
          rw [← ha]
          have hkk : (k : Int) = kk := hk.symm
          rw [hkk]
          rw [if_neg (by omega)]
        · refine r_aload_n hV rfl rfl (pc' := 22) rfl ?_
          refine tt_getR hV (tg := 6) (ci := 12) (kf := 30) rfl rfl (by decide) (hB _ _ rfl) rfl (by decide) (pc' := 25) rfl ?_
          refine tt_iconst hV rfl (pc' := 26) rfl ?_
          refine r_iload_n hV rfl rfl (pc' := 27) rfl ?_
          refine tt_iadd hV rfl (pc' := 28) rfl ?_
          refine tt_iald hV rfl (hB _ _ rfl) (by decide) (by omega) (pc' := 29) rfl ?_
          refine tt_iconst hV rfl (pc' := 30) rfl ?_
          refine tt_isub hV rfl (pc' := 31) rfl ?_
          refine r_aload_n hV rfl rfl (pc' := 32) rfl ?_
          refine r_iload_n hV rfl rfl (pc' := 33) rfl ?_
          obtain ⟨pv, m2, ⟨hp1, hp2⟩, hp3⟩ := hP d m1 kk ⟨by rw [e83], fun a q1 q2 => h1 a (by simp; omega)⟩ (by rw [eK]; exact hK) (by rw [eK, e101]; exact hQ) (by rw [eK, eW]; exact hW) (by omega) (by omega)
          refine tt_cv1I hV rfl rfl rfl (Wd_obj (hB _ _ rfl)) (Nat.le_of_ble_eq_true rfl) (Nat.le_of_ble_eq_true rfl) rfl hp3 (pc' := 36) rfl ?_
          rw [e83, e101, eW] at hp1
          refine tt_imul hV rfl (pc' := 37) rfl ?_
          refine r_goto hV rfl (pc' := 41) (by decide) ?_
          refine tt_iadd hV rfl (pc' := 42) rfl ?_
          refine tt_istore1 hV rfl rfl (pc' := 43) rfl ?_
          refine tt_iinc2 hV rfl rfl (pc' := 46) rfl ?_
          refine r_goto hV rfl (pc' := 4) (by decide) ?_
          refine ih (k + 1) _ _ _ (by omega) ?_ (h1.tr hp2) (by omega) (by omega)
          show _ = sumTo (m 83 28) (wtM m) pf (m 101) k + _
          rw [← ha]
          have hkk : (k : Int) = kk := hk.symm
          rw [hkk]
          rw [if_pos (by omega), hp1, e101, Int.zero_add]
  refine tt_iconst hV rfl (pc' := 1) rfl ?_
  refine tt_istore1 hV rfl rfl (pc' := 2) rfl ?_
  refine tt_iconst hV rfl (pc' := 3) rfl ?_
  refine tt_istore2 hV rfl rfl (pc' := 4) rfl ?_
  exact LP ((m 83 28).toNat + 1) 0 0 0 m rfl rfl (Fr.rf _ _) (by omega) (by omega)
end Mcore
