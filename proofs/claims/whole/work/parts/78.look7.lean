/-! ===== straw, fewest ===== -/
def swBy (q : Int → Int) (s : Int) : Int → Int := fun j => if j = 19 then iO (q 19) s else q j
def stB (K : Kn) (B : Int → Int) (pf : Pf) (q : Int → Int) (s : Int) : Bool := decide (iA s (q 19) = 0) && decide (endA K (wtB B) pf (swBy q s) 18 = q 18)
def stL (K : Kn) (B : Int → Int) (pf : Pf) (q : Int → Int) (lo hi : Int) : List Int := flG (fun s => (decide (lo ≤ cnt s) && decide (cnt s ≤ hi)) && stB K B pf q s) (fun s => s) (pw (kNb K)).toNat 0
def FStraw (K : Kn) (B : Int → Int) (pf : Pf) (q : Int → Int) (x y : Int) : Int := if kNm K = 0 ∨ x < 0 ∨ 3 < x then -1 else pickL (stL K B pf q x x) y
def fwL : List Int → Int → Int
  | [], b => b
  | s :: L, b => fwL L (if b = -1 ∨ cnt s < cnt b then s else b)
def FFewest (K : Kn) (B : Int → Int) (pf : Pf) (q : Int → Int) : Int := if kNm K = 0 then -1 else fwL (stL K B pf q 0 6) (-1)
theorem pw64 {n : Int} (h : 0 ≤ n ∧ n ≤ 6) : 1 ≤ pw n ∧ pw n ≤ 64 := by
  obtain ⟨a, rfl⟩ : ∃ a : Nat, n = (a : Int) := ⟨n.toNat, by omega⟩
  exact (by decide +kernel : ∀ a : Nat, a ≤ 6 → 1 ≤ pw (a : Int) ∧ pw (a : Int) ≤ 64) a (by omega)
theorem Qok.sw {K : Kn} {q : Int → Int} (h : Qok K q) {s : Int} (hs : 0 ≤ s ∧ s < 64) (hn : kNm K ≤ 6) : Qok K (swBy q s) := by
  unfold Qok swBy at *
  obtain ⟨a1, a2, a3, a4, a5, a6⟩ := h
  refine ⟨fun i h1 h2 => ?_, ?_, ?_, ?_, ?_, ?_⟩
  · rw [if_neg (by omega), if_neg (by omega), if_neg (by omega)]
    exact a1 i h1 h2
  · rw [if_neg (by omega)]; exact a2
  · rw [if_pos rfl]; exact or64 a3 hs
  · rw [if_neg (by omega)]; exact a4
  · rw [if_neg (by omega)]; exact a5
  · rw [if_neg (by omega)]; exact a6
theorem Sr.sw {K : Kn} {wt f f' q : Int → Int} (h : Sr K wt f q) {s : Int} (hn : kNm K ≤ 6) (e5 : f' 5 = iO (f 5) s) (e : ∀ j, j ≠ 5 → f' j = f j) : Sr K wt f' (swBy q s) := by
  unfold Sr swBy at *
  obtain ⟨a1, a2, a3, a4, a5, a6, a7⟩ := h
  refine ⟨fun i h1 h2 => ?_, ?_, ?_, ?_, ?_, ?_, ?_⟩
  · rw [if_neg (by omega), if_neg (by omega), if_neg (by omega), e 0 (by decide), e 1 (by decide), e 2 (by decide), e 3 (by decide)]
    exact a1 i h1 h2
  · rw [e 4 (by decide), if_neg (by omega)]; exact a2
  · rw [e5, if_pos rfl, a3]
  · rw [e 6 (by decide), if_neg (by omega)]; exact a4
  · rw [e 7 (by decide), if_neg (by omega)]; exact a5
  · rw [e 8 (by decide), if_neg (by omega)]; exact a6
  · rw [e 9 (by decide), if_neg (by omega)]; exact a7
theorem flG_mem {p : Int → Bool} : ∀ (f : Nat) (s : Int), ∀ x ∈ flG p (fun s => s) f s, s ≤ x ∧ x < s + f := by
  intro f
  induction f with
  | zero => intro s x hx; exact absurd hx (by unfold flG; simp)
  | succ f ih =>
    intro s x hx
    unfold flG at hx
    split at hx
    · rcases List.mem_cons.mp hx with e | e
      · subst e
        omega
      · have := ih (s + 1) x e
        omega
    · have := ih (s + 1) x hx
      omega
section Look7
variable {X : Cx} {d : Nat} {m : Mm} {Q : Int → Mm → Prop} {Q0 : Mm → Prop} {c : Nat} {K : Kn} {B q : Int → Int} {pf : Pf}
theorem O_listStraw_25_c (hB : Bsh X.2.2.1) {m0 : Mm} {x y : Int} (hx : 0 ≤ x ∧ x ≤ 6) (hy : 0 ≤ y ∧ y ≤ 6) (hp : 0 < kNm K) : ∀ (f : Nat) (m : Mm) (l5 : Int) (o6 : Option Int) (L : List Int), CI X m c K B pf q → 0 ≤ l5 → pw (kNb K) - l5 = f → SmC m0 m → FdL m 67 L → (L.length : Int) ≤ l5 → (∀ m', SmC m0 m' → FdL m' 67 (L ++ flG (fun s => (decide (x ≤ cnt s) && decide (cnt s ≤ y)) && stB K B pf q s) (fun s => s) f l5) → Q0 m') → O_listStraw_25 X (d + 9) x y (pw (kNb K)) l5 o6 m Q0 := by
  intro f
  induction f with
  | zero =>
    intro m l5 o6 L hI hl hf hs hL hll h
    obtain ⟨b1, -⟩ := hI.2.2.2.2.2 hp
    have hpw := pw64 b1.2.2.2.2.1.2.1
    exact O_listStraw_25w hB ⟨by omega, by omega, fun _ => h m hs (by unfold flG; rw [List.append_nil]; exact hL), fun z => by omega⟩
  | succ f ih =>
    intro m l5 o6 L hI hl hf hs hL hll h
    obtain ⟨b1, b2, b3, b4, b5⟩ := hI.2.2.2.2.2 hp
    have hK := b1.2.2.2.2.1
    have hpw := pw64 hK.2.1
    have hcr := cnt_r l5
    have e5 : m 17 5 = q 19 := b4.2.2.1
    have e4 : m 17 4 = pw (kNm K) - 1 - q 18 := b4.2.1
    have hn := hI.2.2.2.2.1
    unfold flG at h
    have skip : ∀ m1 o, SmC m m1 → FdL m1 67 L → ((decide (x ≤ cnt l5) && decide (cnt l5 ≤ y)) && stB K B pf q l5) = false → O_listStraw_25 X (d + 9) x y (pw (kNb K)) (l5 + 1) o m1 Q0 := fun m1 o s1 g1 e => by
      simp only [e] at h
      exact ih m1 (l5 + 1) o L (hI.sm s1) (by omega) (by omega) (hs.tr s1) g1 (by omega) h
    refine O_listStraw_25w hB ⟨by omega, by omega, fun z => by omega, fun _ => J_bitCount_c hB (by omega) ⟨by omega, by omega, fun z1 => skip m _ (SmC.rf m) hL (by simp; omega), fun z1 => ⟨by omega, fun z2 => skip m _ (SmC.rf m) hL (by simp; omega), fun z2 => ⟨fun z3 => skip m _ (SmC.rf m) hL ?_, fun z3 => T_copy_c hB (by decide) (by decide) (by decide) ?_⟩⟩⟩⟩
    · rw [e5] at z3
      unfold stB
      rw [decide_eq_false z3]
      simp
    · rw [e5] at z3
      obtain ⟨m1, hm1⟩ : ∃ m1, m1 = up (cpS m 69 17) 69 5 (iO (cpS m 69 17 69 5) l5) := ⟨_, rfl⟩
      rw [← hm1]
      have hc : Sc 69 m m1 := by
        rw [hm1]
        exact (cp_sc (o := 17) (Or.inl rfl)).tr ⟨by rw [up_ne (Or.inl (by decide))], by rw [up_ne (Or.inl (by decide))], (Fr.rf _ _).up (by simp)⟩
      have hS : Sr K (wtB B) (m1 69) (swBy q l5) := (Sr.cp b4 (s := 69) (f := q)).sw hn.2 (by rw [hm1]; exact up_same _ _ _ _) (fun j hj => by rw [hm1]; exact up_ne (Or.inr hj))
      have hQ := b3.sw (s := l5) (by omega) hn.2
      refine S_sideAtEnd_c hB (b1.of (Or.inr (Or.inl rfl)) hc) (Or.inr (Or.inl rfl)) b2.w hS hQ (fun m2 g1 g2 g3 => ?_)
      have hc2 := hc.tr g3
      have hs2 := hc2.sm (Or.inl rfl)
      have hE := (end_ok (wt := wtB B) (pf := pf) hK hQ).2.1
      have hq18 := b3.2.1
      have hpn := pw_le hK.1
      have f17 : m2 17 = m 17 := hc2.2.2 17 (by decide)
      have g4 : m2 69 4 = pw (kNm K) - 1 - endA K (wtB B) pf (swBy q l5) 18 := g1.2.1
      have hL2 : FdL m2 67 L := by
        unfold FdL at hL ⊢
        rw [hc2.2.2 67 (by decide), hc2.2.2 (67 + 1) (by decide)]
        exact hL
      refine ⟨by omega, by rw [f17, e4]; omega, fun z4 => skip m2 _ hs2 hL2 ?_, fun z4 => ?_⟩
      · rw [f17, e4, g4] at z4
        unfold stB
        rw [decide_eq_false (p := endA K (wtB B) pf (swBy q l5) 18 = q 18) (by omega)]
        simp
      · rw [f17, e4, g4] at z4
        have e : ((decide (x ≤ cnt l5) && decide (cnt l5 ≤ y)) && stB K B pf q l5) = true := by
          unfold stB
          rw [decide_eq_true z1, decide_eq_true z2, decide_eq_true z3, decide_eq_true (p := endA K (wtB B) pf (swBy q l5) 18 = q 18) (by omega)]
          rfl
        simp only [e, if_true] at h
        refine F_add_c hB (Or.inl rfl) hL2 (by show L.length < 64; omega) (fun m3 a1 a2 => ?_)
        have s3 : SmC m2 m3 := SmC.fr a2 (by decide)
        exact ih m3 (l5 + 1) _ (L ++ [l5]) ((hI.sm hs2).sm s3) (by omega) (by omega) ((hs.tr hs2).tr s3) a1 (by simp; omega) (fun m' c1 c2 => h m' c1 (by rw [List.append_assoc] at c2; exact c2))
theorem O_listStraw_c (hB : Bsh X.2.2.1) {x y : Int} (hx : 0 ≤ x ∧ x ≤ 6) (hy : 0 ≤ y ∧ y ≤ 6) (hp : 0 < kNm K) (hI : CI X m c K B pf q) (h : ∀ m', SmC m m' → FdL m' 67 (stL K B pf q x y) → Q0 m') : O_listStraw X (d + 9) x y m Q0 := by
  obtain ⟨b1, b2, b3, b4, b5⟩ := hI.2.2.2.2.2 hp
  have h3 : m c 3 = kNb K := b1.2.2.1.1
  have hpw := pw64 b1.2.2.2.2.1.2.1
  refine O_listStraww hB ⟨c, hI.1, hI.2.2.1, ?_⟩
  rw [h3, pw_e b1.2.2.2.2.1.2.1]
  have s1 : SmC m (up m 67 1 0) := SmC.fr ((Fr.rf [67] _).up (by simp)) (by decide)
  refine O_listStraw_25_c hB hx hy hp (pw (kNb K)).toNat _ 0 none [] (hI.sm s1) (by omega) (by omega) s1 ⟨up_same _ _ _ _, fun j hj => by simp at hj⟩ (by simp) (fun m' g1 g2 => h m' g1 g2)
theorem stL_len (K : Kn) (B : Int → Int) (pf : Pf) (q : Int → Int) (x y : Int) (h : 0 ≤ kNb K ∧ kNb K ≤ 6) : (stL K B pf q x y).length ≤ 64 := by
  have h1 := flG_len (fun s => (decide (x ≤ cnt s) && decide (cnt s ≤ y)) && stB K B pf q s) (fun s => s) (pw (kNb K)).toNat 0
  have h2 := pw64 h
  unfold stL
  omega
theorem V_straw_c (hB : Bsh X.2.2.1) (hI : CI X m c K B pf q) {x y : Int} (hx : R3 x) (hy : R3 y) (h : ∀ m', SmC m m' → Q (FStraw K B pf q x y) m') : V_straw X (d + 12) x y m Q := by
  have hn := hI.mem
  have h4 := hI.2.2.2.1
  have no : (kNm K = 0 ∨ x < 0 ∨ 3 < x) → Q (-1) m := fun e => by
    have := h m (SmC.rf m)
    unfold FStraw at this
    rw [if_pos e] at this
    exact this
  refine V_straww hB (V_hasCanton_c hB hI.1 hI.2.1 hn (fun hp => q1e ⟨hx, fun e => no (by omega), fun z1 => ⟨fun z2 => ?_, fun e => no (by omega)⟩⟩) (fun e => q0e (no (by omega))))
  have hnb := (hI.2.2.2.2.2 (by omega)).1.2.2.2.2.1.2.1
  refine O_listStraw_c hB (by omega) (by omega) (by omega) hI (fun m' s1 g1 => F_pick_c hB (Or.inl rfl) g1 (stL_len _ _ _ _ _ _ hnb) hy ?_)
  have := h m' s1
  unfold FStraw at this
  rw [if_neg (by omega)] at this
  exact this
theorem F_ofFewestBits_8_c (hB : Bsh X.2.2.1) {L : List Int} (hL : FdL m 67 L) (hl : L.length ≤ 64) (hr : ∀ x ∈ L, 0 ≤ x ∧ x < 64) : ∀ (f : Nat) (l2 l3 : Int), 1 ≤ l3 → (L.length : Int) - l3 = f → (0 ≤ l2 ∧ l2 < 64) → Q (fwL (L.drop l3.toNat) l2) m → F_ofFewestBits_8 X (d + 1) 67 l2 l3 m Q := by
  intro f
  have e1 : m 67 1 = L.length := hL.1
  induction f with
  | zero =>
    intro l2 l3 h3 hf h2 h
    rw [List.drop_eq_nil_of_le (by omega)] at h
    exact F_ofFewestBits_8w hB (Or.inl rfl) ⟨by omega, by omega, fun _ => h, fun z => by omega⟩
  | succ f ih =>
    intro l2 l3 h3 hf h2 h
    have hlt : l3.toNat < L.length := by omega
    have hd : L.drop l3.toNat = L[l3.toNat] :: L.drop (l3.toNat + 1) := List.drop_eq_getElem_cons hlt
    have hg : (if 0 ≤ l3 ∧ l3 < L.length then L.getD l3.toNat 0 else -1) = L[l3.toNat] := by
      rw [if_pos (by omega), List.getD_eq_getElem?_getD, List.getElem?_eq_getElem hlt]
      rfl
    have hm := hr _ (List.getElem_mem hlt)
    have hx := cnt_r L[l3.toNat]
    have hx2 := cnt_r l2
    have e2 : (l3 + 1).toNat = l3.toNat + 1 := by omega
    rw [hd] at h
    unfold fwL at h
    refine F_ofFewestBits_8w hB (Or.inl rfl) ⟨by omega, by omega, fun z => by omega, fun _ => F_at_c hB (Or.inl rfl) hL hl (by omega) ?_⟩
    rw [hg]
    refine J_bitCount_c hB hm (J_bitCount_c hB h2 ⟨by omega, by omega, fun z => ?_, fun z => F_at_c hB (Or.inl rfl) hL hl (by omega) ?_⟩)
    · rw [if_neg (by omega)] at h
      exact ih l2 (l3 + 1) (by omega) (by omega) h2 (by rw [e2]; exact h)
    · rw [hg]
      rw [if_pos (by omega)] at h
      exact ih _ (l3 + 1) (by omega) (by omega) hm (by rw [e2]; exact h)
theorem V_fewest_c (hB : Bsh X.2.2.1) (hI : CI X m c K B pf q) (h : ∀ m', SmC m m' → Q (FFewest K B pf q) m') : V_fewest X (d + 12) m Q := by
  have hn := hI.mem
  have h4 := hI.2.2.2.1
  unfold FFewest at h
  refine V_fewestw hB (V_hasCanton_c hB hI.1 hI.2.1 hn (fun hp => q1n ?_) (fun e => q0n ?_))
  · rw [if_neg (by omega)] at h
    have hnb := (hI.2.2.2.2.2 (by omega)).1.2.2.2.2.1.2.1
    have hpw := pw64 hnb
    refine O_listStraw_c hB (by omega) (by omega) (by omega) hI (fun m' s1 g1 => F_ofFewestBitsw hB (Or.inl rfl) ?_)
    have hF := h m' s1
    have hl := stL_len K B pf q 0 6 hnb
    have hr : ∀ x ∈ stL K B pf q 0 6, 0 ≤ x ∧ x < 64 := fun x hx => by
      have := flG_mem (pw (kNb K)).toNat 0 x hx
      omega
    refine F_at_c hB (Or.inl rfl) g1 hl (by decide) ?_
    cases hL : stL K B pf q 0 6 with
    | nil =>
      rw [hL] at g1 hF
      have e1 : m' 67 1 = 0 := g1.1
      exact F_ofFewestBits_8w hB (Or.inl rfl) ⟨by decide, by omega, fun _ => hF, fun z => by omega⟩
    | cons a t =>
      rw [hL] at g1 hF hl hr
      rw [if_pos (by simp)]
      unfold fwL at hF
      rw [if_pos (Or.inl rfl)] at hF
      exact F_ofFewestBits_8_c hB g1 hl hr t.length a 1 (by omega) (by simp) (hr a (by simp)) hF
  · rw [if_pos (by omega)] at h
    exact h m (SmC.rf m)
/-! the reference -/
theorem M_isStraw_c (hB : Bsh X.2.2.1) (hI : MI X m K B pf q) (hp : 0 < kNm K) {s : Int} (hs : 0 ≤ s ∧ s < 64) (h : ∀ m', SmM m m' → Q (if stB K B pf q s then 1 else 0) m') : M_isStraw X (d + 11) s m Q := by
  have hn := hI.2.2.2.1
  obtain ⟨b1, b2, b3⟩ := hI.2.2.2.2 hp
  have ew := hI.w
  have e3 := hI.2.2.1
  unfold stB at h
  refine M_isStraww hB ⟨fun z => ?_, fun z => M_isSmoothw hB (M_putAside_t hB (fun m1 t1 t2 t3 _ _ => ?_))⟩
  · rw [e3] at z
    rw [decide_eq_false z] at h
    exact h m (SmM.rf m)
  · rw [e3] at z
    rw [decide_eq_true z] at h
    have q1 : up m1 101 19 (iO (m1 101 19) s) 101 = swBy q s := by
      funext j
      rw [up_at, t2, e3]
      rfl
    have hQ := b3.sw hs hn.2
    have hK := b1.2.2.1
    refine M_layEnd_c hB b1 (t1.set (by omega)) (by rw [ew]; exact b2.w) (by rw [q1]; exact hQ) (fun m3 s1 s2 s3 s4 _ _ => ?_)
    rw [q1, ew] at s3
    have hE := (end_ok (wt := wtB B) (pf := pf) hK hQ).2.1
    have hq18 := b3.2.1
    have hpn := pw_le hK.1
    have e18 : m 101 18 = q 18 := by rw [e3]
    have hF := h m3 s1
    refine ⟨by omega, by omega, fun z2 => q0e ?_, fun z2 => q1e ?_⟩
    · rw [s3, e18] at z2
      rw [decide_eq_false z2] at hF
      exact hF
    · rw [s3, e18] at z2
      rw [decide_eq_true z2] at hF
      exact hF
theorem M_straw_28_c (hB : Bsh X.2.2.1) (hp : 0 < kNm K) {x y : Int} (hx : 0 ≤ x ∧ x ≤ 3) (hy : R3 y) : ∀ (f : Nat) (m : Mm) (l3 l4 : Int), MI X m K B pf q → 0 ≤ l4 → pw (kNb K) - l4 = f → (0 ≤ l3 ∧ l3 ≤ l4) → (∀ m', SmM m m' → Q (pkF (flG (fun s => decide (cnt s = x) && stB K B pf q s) (fun s => s) f l4) l3 y) m') → M_straw_28 X (d + 12) x y l3 l4 m Q := by
  intro f
  induction f with
  | zero =>
    intro m l3 l4 hI hl hf h3 h
    have hnb := (hI.2.2.2.2 hp).1.2.2.1.2.1
    have hpw := pw64 hnb
    have e27 : m 83 27 = kNb K := by rw [← hI.1]; rfl
    have h' := h m (SmM.rf m)
    unfold flG pkF at h'
    refine M_straw_28w hB ⟨by omega, ?_⟩
    rw [e27, pw_e hnb]
    refine ⟨fun _ => ⟨hy, fun e => ?_, fun e => ?_⟩, fun e => by omega⟩
    · rw [if_neg e] at h'
      exact h'
    · rw [if_pos e] at h'
      exact h'
  | succ f ih =>
    intro m l3 l4 hI hl hf h3 h
    have hnb := (hI.2.2.2.2 hp).1.2.2.1.2.1
    have hpw := pw64 hnb
    have e27 : m 83 27 = kNb K := by rw [← hI.1]; rfl
    have hcr := cnt_r l4
    unfold flG at h
    refine M_straw_28w hB ⟨by omega, ?_⟩
    rw [e27, pw_e hnb]
    refine ⟨fun e => by omega, fun _ => J_bitCount_c hB (by omega) ⟨by omega, by omega, fun z => ?_, fun z => M_isStraw_c hB hI hp (by omega) (fun m1 s1 => ?_)⟩⟩
    · simp only [decide_eq_false z, Bool.false_and] at h
      exact ih m l3 (l4 + 1) hI (by omega) (by omega) (by omega) h
    · simp only [decide_eq_true z, Bool.true_and] at h
      cases hb : stB K B pf q l4 with
      | false =>
        simp only [hb] at h
        exact q0e (ih m1 l3 (l4 + 1) (hI.sm s1) (by omega) (by omega) (by omega) (fun m' hs => h m' (s1.tr hs)))
      | true =>
        simp only [hb, if_true] at h
        refine q1e ⟨by omega, hy, fun e => ih m1 (l3 + 1) (l4 + 1) (hI.sm s1) (by omega) (by omega) (by omega) (fun m' hs => ?_), fun e => ?_⟩
        · have := h m' (s1.tr hs)
          unfold pkF at this
          rw [if_neg e] at this
          exact this
        · have := h m1 s1
          unfold pkF at this
          rw [if_pos e] at this
          exact this
theorem M_straw_c (hB : Bsh X.2.2.1) (hI : MI X m K B pf q) {x y : Int} (hx : R3 x) (hy : R3 y) (h : ∀ m', SmM m m' → Q (FStraw K B pf q x y) m') : M_straw X (d + 13) x y m Q := by
  have hn := hI.2.2.2.1
  have e28 := hI.n
  unfold FStraw at h
  refine M_straww hB ⟨by omega, fun e => ?_, fun hp => M_in_c hx (by decide) (by decide) (fun z1 z2 => q1e ⟨hy, fun e => ?_, fun e => ?_⟩) (fun e => q0e ?_)⟩
  · rw [if_pos (by omega)] at h
    exact h m (SmM.rf m)
  · rw [if_neg (by omega)] at h
    have hnb := (hI.2.2.2.2 (by omega)).1.2.2.1.2.1
    have hpw := pw64 hnb
    have ec : stL K B pf q x x = flG (fun s => decide (cnt s = x) && stB K B pf q s) (fun s => s) (pw (kNb K)).toNat 0 := by
      unfold stL
      refine flG_congr (n := pw (kNb K)) (fun s _ _ => ?_) _ 0 (by omega) (by omega)
      congr 1
      by_cases z : cnt s = x
      · rw [decide_eq_true (p := x ≤ cnt s) (by omega), decide_eq_true (p := cnt s ≤ x) (by omega), decide_eq_true z]
        rfl
      · rw [decide_eq_false z]
        by_cases z3 : x ≤ cnt s
        · rw [decide_eq_false (p := cnt s ≤ x) (by omega), Bool.and_false]
        · rw [decide_eq_false z3, Bool.false_and]
    refine M_straw_28_c hB (by omega) ⟨z1, z2⟩ hy (pw (kNb K)).toNat m 0 0 hI (by omega) (by omega) (by omega) (fun m' hs => ?_)
    rw [← ec, pkF_0 e]
    exact h m' hs
  · rw [if_neg (by omega), pickL_low e] at h
    exact h m (SmM.rf m)
  · rw [if_pos (by omega)] at h
    exact h m (SmM.rf m)
theorem M_fewest_13_c (hB : Bsh X.2.2.1) (hp : 0 < kNm K) : ∀ (f : Nat) (m : Mm) (l1 l2 : Int) (o : Option Int), MI X m K B pf q → 0 ≤ l2 → pw (kNb K) - l2 = f → (l1 = -1 ∨ (0 ≤ l1 ∧ l1 < 64)) → (∀ m', SmM m m' → Q (fwL (flG (stB K B pf q) (fun s => s) f l2) l1) m') → M_fewest_13 X (d + 12) l1 l2 o m Q := by
  intro f
  induction f with
  | zero =>
    intro m l1 l2 o hI hl hf h1 h
    have hnb := (hI.2.2.2.2 hp).1.2.2.1.2.1
    have hpw := pw64 hnb
    have e27 : m 83 27 = kNb K := by rw [← hI.1]; rfl
    refine M_fewest_13w hB ⟨by omega, ?_⟩
    rw [e27, pw_e hnb]
    exact ⟨fun _ => h m (SmM.rf m), fun e => by omega⟩
  | succ f ih =>
    intro m l1 l2 o hI hl hf h1 h
    have hnb := (hI.2.2.2.2 hp).1.2.2.1.2.1
    have hpw := pw64 hnb
    have e27 : m 83 27 = kNb K := by rw [← hI.1]; rfl
    have r1 := cnt_r l1
    have r2 := cnt_r l2
    unfold flG at h
    have go : (l1 = -1 ∨ cnt l2 < cnt l1) → M_fewest_39 X (d + 12) l1 l2 o m Q := fun hc => by
      refine M_fewest_39w hB (M_isStraw_c hB hI hp (by omega) (fun m1 s1 => ?_))
      cases hb : stB K B pf q l2 with
      | false =>
        simp only [hb] at h
        exact q0e (ih m1 l1 (l2 + 1) _ (hI.sm s1) (by omega) (by omega) h1 (fun m' hs => h m' (s1.tr hs)))
      | true =>
        simp only [hb, if_true] at h
        refine q1e (ih m1 l2 (l2 + 1) _ (hI.sm s1) (by omega) (by omega) (by omega) (fun m' hs => ?_))
        have := h m' (s1.tr hs)
        unfold fwL at this
        rw [if_pos hc] at this
        exact this
    refine M_fewest_13w hB ⟨by omega, ?_⟩
    rw [e27, pw_e hnb]
    refine ⟨fun e => by omega, fun _ => ⟨by omega, fun z => go (Or.inl z), fun z => J_bitCount_c hB (by omega) (J_bitCount_c hB (by omega) ⟨by omega, by omega, fun z2 => ?_, fun z2 => go (Or.inr z2)⟩)⟩⟩
    refine ih m l1 (l2 + 1) _ hI (by omega) (by omega) h1 (fun m' hs => ?_)
    have := h m' hs
    cases hb : stB K B pf q l2 with
    | false =>
      simp only [hb] at this
      exact this
    | true =>
      simp only [hb, if_true] at this
      unfold fwL at this
      rw [if_neg (by omega)] at this
      exact this
theorem M_fewest_c (hB : Bsh X.2.2.1) (hI : MI X m K B pf q) (h : ∀ m', SmM m m' → Q (FFewest K B pf q) m') : M_fewest X (d + 13) m Q := by
  have hn := hI.2.2.2.1
  have e28 := hI.n
  unfold FFewest at h
  refine M_fewestw hB ⟨by omega, fun hp => ?_, fun e => ?_⟩
  · rw [if_neg (by omega)] at h
    have hnb := (hI.2.2.2.2 (by omega)).1.2.2.1.2.1
    have hpw := pw64 hnb
    have ec : stL K B pf q 0 6 = flG (stB K B pf q) (fun s => s) (pw (kNb K)).toNat 0 := by
      unfold stL
      refine flG_congr (n := pw (kNb K)) (fun s _ _ => ?_) _ 0 (by omega) (by omega)
      have := cnt_r s
      rw [decide_eq_true this.1, decide_eq_true this.2]
      rfl
    rw [ec] at h
    exact M_fewest_13_c hB (by omega) (pw (kNb K)).toNat m (-1) 0 none hI (by omega) (by omega) (Or.inl rfl) h
  · rw [if_pos (by omega)] at h
    exact h m (SmM.rf m)
end Look7
