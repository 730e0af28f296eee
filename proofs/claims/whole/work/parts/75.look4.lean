/-! ===== what a call found; leans changed; power, game, rests ===== -/
def pickL (L : List Int) (i : Int) : Int := if i = -1 then L.length else if 0 ≤ i ∧ i < L.length then L.getD i.toNat 0 else -1
def pkF : List Int → Int → Int → Int
  | [], n, i => if i = -1 then n else -1
  | a :: L, n, i => if n = i then a else pkF L (n + 1) i
theorem pkF_e : ∀ (L : List Int) (n i : Int), 0 ≤ n → (i = -1 ∨ n ≤ i) → pkF L n i = if i = -1 then n + L.length else if i < n + L.length then L.getD (i - n).toNat 0 else -1 := by
  intro L
  induction L with
  | nil =>
    intro n i h0 h1
    unfold pkF
    by_cases z : i = -1
    · rw [if_pos z, if_pos z]
      simp
    · rw [if_neg z, if_neg z, if_neg (by simp; omega)]
  | cons a L ih =>
    intro n i h0 h1
    unfold pkF
    by_cases z : n = i
    · rw [if_pos z, if_neg (by omega), if_pos (by simp; omega)]
      have e : (i - n).toNat = 0 := by omega
      rw [e]
      rfl
    · rw [if_neg z, ih (n + 1) i (by omega) (by omega)]
      have el : ((a :: L).length : Int) = L.length + 1 := by simp
      by_cases z2 : i = -1
      · rw [if_pos z2, if_pos z2, el]
        omega
      · rw [if_neg z2, if_neg z2, el]
        by_cases z3 : i < n + 1 + L.length
        · rw [if_pos z3, if_pos (by omega)]
          have e : (i - n).toNat = (i - (n + 1)).toNat + 1 := by omega
          rw [e]
          rfl
        · rw [if_neg z3, if_neg (by omega)]
theorem pkF_0 {L : List Int} {i : Int} (h : -1 ≤ i) : pkF L 0 i = pickL L i := by
  rw [pkF_e L 0 i (by omega) (by omega)]
  unfold pickL
  rw [Int.zero_add, Int.sub_zero]
  by_cases z : i = -1
  · rw [if_pos z, if_pos z]
  · rw [if_neg z, if_neg z]
    by_cases z2 : i < L.length
    · rw [if_pos z2, if_pos ⟨by omega, z2⟩]
    · rw [if_neg z2, if_neg (fun q => z2 q.2)]
theorem pickL_low {L : List Int} {i : Int} (h : i < -1) : pickL L i = -1 := by
  unfold pickL
  rw [if_neg (by omega), if_neg (by omega)]
/-- the class's list -/
def FdL (m : Mm) (f : Nat) (L : List Int) : Prop := m f 1 = L.length ∧ ∀ j : Nat, j < L.length → m (f + 1) j = L.getD j 0
section Found
variable {X : Cx} {d : Nat} {m : Mm} {Q : Int → Mm → Prop} {Q0 : Mm → Prop} {f : Nat} {L : List Int}
theorem F_add_c (hB : Bsh X.2.2.1) (hf : fO f) (hL : FdL m f L) (hl : L.length < fLen f) {x : Int} (h : ∀ m', FdL m' f (L ++ [x]) → Fr [f, f + 1] m m' → Q0 m') : F_add X d f x m Q0 := by
  have hfl := fLen_le f
  obtain ⟨h1, h2⟩ := hL
  refine F_addw hB hf ⟨by omega, by omega, fun z => by omega, fun z => ⟨by omega, h _ ⟨?_, fun j hj => ?_⟩ (((Fr.rf _ _).up (by simp)).up (by simp))⟩⟩
  · rw [up_same, h1]
    simp
  · rw [up_ne (Or.inl (by omega)), up_at, h1]
    rw [List.length_append, List.length_singleton] at hj
    by_cases z : j = L.length
    · rw [if_pos (by omega), z, List.getD_eq_getElem?_getD, List.getElem?_append_right (Nat.le_refl _), Nat.sub_self]
      rfl
    · rw [if_neg (by omega), h2 j (by omega), List.getD_eq_getElem?_getD, List.getD_eq_getElem?_getD, List.getElem?_append_left (by omega)]
theorem F_at_c (hB : Bsh X.2.2.1) (hf : fO f) (hL : FdL m f L) (hl : L.length ≤ fLen f) {x : Int} (hx : R3 x) (h : Q (if 0 ≤ x ∧ x < L.length then L.getD x.toNat 0 else -1) m) : F_at X d f x m Q := by
  have hfl := fLen_le f
  obtain ⟨h1, h2⟩ := hL
  refine F_atw hB hf ⟨hx, fun z => ?_, fun z => ⟨by omega, fun z2 => ?_, fun z2 => ⟨by omega, ?_⟩⟩⟩
  · rw [if_neg (by omega)] at h
    exact h
  · rw [if_neg (by omega)] at h
    exact h
  · rw [if_pos (by omega), ← h2 x.toNat (by omega)] at h
    have e : ((x.toNat : Nat) : Int) = x := by omega
    rw [e] at h
    exact h
theorem F_pick_c (hB : Bsh X.2.2.1) (hf : fO f) (hL : FdL m f L) (hl : L.length ≤ fLen f) {x : Int} (hx : R3 x) (h : Q (pickL L x) m) : F_pick X (d + 1) f x m Q := by
  unfold pickL at h
  refine F_pickw hB hf ⟨hx, fun z => ?_, fun z => ?_⟩
  · rw [if_neg z] at h
    exact F_at_c hB hf hL hl hx h
  · rw [if_pos z] at h
    rw [hL.1]
    exact h
end Found
/-! leans -/
def lnBy (q : Int → Int) (k v : Int) : Int → Int := fun j => if j = k then v else q j
def leanS (q : Int → Int) (nm : Int) (g : Int → Int) : Int → Int := fun j => if 0 ≤ j ∧ j < nm then g j else q j
theorem Sr.lean {K : Kn} {wt f f' q q' : Int → Int} (h : Sr K wt f q) (hn : kNm K ≤ 6) (e1 : ∀ k, 0 ≤ k → k < kNm K → nib (f' 1) k = q' k) (e : ∀ j, j ≠ 1 → 0 ≤ j → j ≤ 9 → f' j = f j) (eq : ∀ j, (j < 0 ∨ kNm K ≤ j) → q' j = q j) : Sr K wt f' q' := by
  unfold Sr at *
  obtain ⟨a1, a2, a3, a4, a5, a6, a7⟩ := h
  refine ⟨fun i h1 h2 => ?_, ?_, ?_, ?_, ?_, ?_, ?_⟩
  · obtain ⟨b1, b2, b3, b4⟩ := a1 i h1 h2
    refine ⟨?_, e1 i h1 h2, ?_, ?_⟩
    · rw [e 0 (by decide) (by decide) (by decide)]; exact b1
    · rw [e 2 (by decide) (by decide) (by decide), eq _ (by omega)]; exact b3
    · rw [e 3 (by decide) (by decide) (by decide), eq _ (by omega)]; exact b4
  · rw [e 4 (by decide) (by decide) (by decide), eq _ (by omega)]; exact a2
  · rw [e 5 (by decide) (by decide) (by decide), eq _ (by omega)]; exact a3
  · rw [e 6 (by decide) (by decide) (by decide), eq _ (by omega)]; exact a4
  · rw [e 7 (by decide) (by decide) (by decide), eq _ (by omega)]; exact a5
  · rw [e 8 (by decide) (by decide) (by decide), eq _ (by omega)]; exact a6
  · rw [e 9 (by decide) (by decide) (by decide), eq _ (by omega)]; exact a7
theorem Qok.lean {K : Kn} {q q' : Int → Int} (h : Qok K q) (hn : kNm K ≤ 6) (e1 : ∀ k, 0 ≤ k → k < kNm K → 0 ≤ q' k ∧ q' k ≤ 2) (eq : ∀ j, (j < 0 ∨ kNm K ≤ j) → q' j = q j) : Qok K q' := by
  unfold Qok at *
  obtain ⟨a1, a2, a3, a4, a5, a6⟩ := h
  refine ⟨fun i h1 h2 => ?_, ?_, ?_, ?_, ?_, ?_⟩
  · obtain ⟨b1, b2, b3⟩ := a1 i h1 h2
    rw [eq (6 + i) (by omega), eq (12 + i) (by omega)]
    exact ⟨e1 i h1 h2, b2, b3⟩
  · rw [eq _ (by omega)]; exact a2
  · rw [eq _ (by omega)]; exact a3
  · rw [eq _ (by omega)]; exact a4
  · rw [eq _ (by omega)]; exact a5
  · rw [eq _ (by omega)]; exact a6
theorem bit_r (x k : Int) : 0 ≤ bit x k ∧ bit x k ≤ 1 := by rcases bit01 x k with h | h <;> omega
def sdBy (K : Kn) (B : Int → Int) (pf : Pf) (q : Int → Int) (g : Int → Int) : Int := sideA K (endA K (wtB B) pf (leanS q (kNm K) g) 22)
theorem sideA_r (K : Kn) (c : Int) : 0 ≤ sideA K c ∧ sideA K c ≤ 2 := by
  unfold sideA
  split
  · decide
  · split <;> decide
def cntF (sd : Int → Int) (x : Int) : Nat → Int → Int → Int
  | 0, _, a => a
  | f + 1, s, a => cntF sd x f (s + 1) (if bit s x = 0 ∧ sd s ≠ sd (iO s (iSl 1 x)) then a + 1 else a)
def FPower (K : Kn) (B : Int → Int) (pf : Pf) (q : Int → Int) (x : Int) : Int := if x < 0 ∨ kNm K ≤ x then -1 else cntF (fun s => sdBy K B pf q (fun j => 2 * bit s j)) x (pw (kNm K)).toNat 0 0
theorem or_in {n s x : Int} (hn : 1 ≤ n ∧ n ≤ 6) (hs : 0 ≤ s ∧ s < pw n) (hx : 0 ≤ x ∧ x < n) : 0 ≤ iO s (iSl 1 x) ∧ iO s (iSl 1 x) < pw n := by
  have h6 := pw_le hn
  obtain ⟨a, rfl⟩ : ∃ a : Nat, n = (a : Int) := ⟨n.toNat, by omega⟩
  obtain ⟨b, rfl⟩ : ∃ b : Nat, s = (b : Int) := ⟨s.toNat, by omega⟩
  obtain ⟨j, rfl⟩ : ∃ j : Nat, x = (j : Int) := ⟨x.toNat, by omega⟩
  exact (by decide +kernel : ∀ a : Nat, a ≤ 6 → ∀ b : Nat, b < 64 → (b : Int) < pw a → ∀ j : Nat, j < a → 0 ≤ iO (b : Int) (iSl 1 (j : Int)) ∧ iO (b : Int) (iSl 1 (j : Int)) < pw (a : Int)) a (by omega) b (by omega) hs.2 j (by omega)
section Look4
variable {X : Cx} {d : Nat} {m : Mm} {Q : Int → Mm → Prop} {Q0 : Mm → Prop} {c : Nat} {K : Kn} {B q : Int → Int} {pf : Pf}
/-- all lean anew in the trial: how far -/
def lnTo (m0 m : Mm) (K : Kn) (B q g : Int → Int) (k : Int) : Prop := Sc 69 m0 m ∧ (∀ j, 0 ≤ j → j < k → nib (m 69 1) j = g j) ∧ (∀ j, j ≠ 1 → 0 ≤ j → j ≤ 9 → m 69 j = m0 17 j)
theorem O_turnedBy_24_c (hB : Bsh X.2.2.1) {m0 : Mm} (hI : CI X m0 c K B pf q) (hp : 0 < kNm K) {x l3 : Int} (hl3 : 0 ≤ l3 ∧ l3 < 64) : ∀ (f : Nat) (m : Mm) (l4 : Int), 0 ≤ l4 → kNm K - l4 = f → lnTo m0 m K B q (fun j => 2 * bit l3 j) l4 → (∀ m' o, Sc 69 m0 m' → O_turnedBy_2 X (d + 9) x (l3 + 1) o (up m' 71 l3 (sdBy K B pf q (fun j => 2 * bit l3 j))) Q) → O_turnedBy_24 X (d + 9) x l3 l4 m Q := by
  intro f
  obtain ⟨b1, b2, b3, b4, b5⟩ := hI.2.2.2.2.2 hp
  have hn := hI.2.2.2.2.1
  induction f with
  | zero =>
    intro m l4 hl hf hT h
    have e4 : m c 4 = kNm K := by
      rw [hT.1.2.2 c (by have := hI.1; simp; omega)]
      exact hI.2.2.2.1
    have hv := b1.of (Or.inr (Or.inl rfl)) hT.1
    refine O_turnedBy_24w hB ⟨c, hI.1, hv.2.1, by omega, by omega, fun _ => ?_, fun z => by omega⟩
    have hS : Sr K (wtB B) (m 69) (leanS q (kNm K) (fun j => 2 * bit l3 j)) := b4.lean hn.2 (fun k h1 h2 => by rw [hT.2.1 k h1 (by omega)]; unfold leanS; rw [if_pos ⟨h1, h2⟩]) hT.2.2 (fun j hj => by unfold leanS; rw [if_neg (by omega)])
    have hQ : Qok K (leanS q (kNm K) (fun j => 2 * bit l3 j)) := b3.lean hn.2 (fun k h1 h2 => by unfold leanS; rw [if_pos ⟨h1, h2⟩]; have := bit_r l3 k; dsimp only; omega) (fun j hj => by unfold leanS; rw [if_neg (by omega)])
    refine S_sideAtEnd_c hB hv (Or.inr (Or.inl rfl)) b2.w hS hQ (fun m1 g1 g2 g3 => ⟨hl3, ?_⟩)
    exact h m1 _ (hT.1.tr g3)
  | succ f ih =>
    intro m l4 hl hf hT h
    have e4 : m c 4 = kNm K := by
      rw [hT.1.2.2 c (by have := hI.1; simp; omega)]
      exact hI.2.2.2.1
    have hv := b1.of (Or.inr (Or.inl rfl)) hT.1
    refine O_turnedBy_24w hB ⟨c, hI.1, hv.2.1, by omega, by omega, fun z => by omega, fun _ => T_with_c (ih _ (l4 + 1) (by omega) (by omega) ⟨hT.1.tr ⟨by rw [up_ne (Or.inl (by decide))], by rw [up_ne (Or.inl (by decide))], (Fr.rf _ _).up (by simp)⟩, fun j h1 h2 => ?_, fun j h1 h2 h3 => by rw [up_ne (Or.inr h1)]; exact hT.2.2 j h1 h2 h3⟩ h)⟩
    have hbr := bit_r l3 l4
    have eb : iA (iSr l3 l4) 1 = bit l3 l4 := rfl
    rw [up_same, eb, nibI (by omega) (by omega) (by omega)]
    by_cases z : j = l4
    · rw [if_pos z, z]
    · rw [if_neg z]
      exact hT.2.1 j h1 (by omega)
theorem O_turnedBy_100_c (hB : Bsh X.2.2.1) (hI : CI X m c K B pf q) {x : Int} (hx : 0 ≤ x ∧ x < kNm K) {sd : Int → Int} (hsd : ∀ s, 0 ≤ s → s < pw (kNm K) → m 71 s = sd s) (hr : ∀ s, 0 ≤ sd s ∧ sd s ≤ 2) : ∀ (f : Nat) (l3 l4 : Int), 0 ≤ l4 → pw (kNm K) - l4 = f → Q (cntF sd x f l4 l3) m → O_turnedBy_100 X (d + 1) x l3 l4 m Q := by
  intro f
  obtain ⟨b1, b2, b3, b4, b5⟩ := hI.2.2.2.2.2 (by omega)
  have hn := hI.2.2.2.2.1
  have hp := pw_le b1.2.2.2.2.1.1
  induction f with
  | zero =>
    intro l3 l4 hl hf h
    exact O_turnedBy_100w hB (S_everyone_c hB b1 ⟨by omega, by omega, fun _ => h, fun z => by omega⟩)
  | succ f ih =>
    intro l3 l4 hl hf h
    have ho := or_in (x := x) (s := l4) b1.2.2.2.2.1.1 (by omega) hx
    have r1 := hr l4
    have r2 := hr (iO l4 (iSl 1 x))
    have s1 := hsd l4 hl (by omega)
    have s2 := hsd _ ho.1 ho.2
    unfold cntF at h
    refine O_turnedBy_100w hB (S_everyone_c hB b1 ⟨by omega, by omega, fun z => by omega, fun _ => ⟨fun z => ?_, fun z => ⟨by omega, by omega, by omega, by omega, fun z2 => ?_, fun z2 => ?_⟩⟩⟩)
    · have z' : ¬ bit l4 x = 0 := z
      rw [if_neg (fun e => z' e.1)] at h
      exact ih l3 (l4 + 1) (by omega) (by omega) h
    · rw [s1, s2] at z2
      rw [if_neg (fun e => e.2 z2)] at h
      exact ih l3 (l4 + 1) (by omega) (by omega) h
    · have z' : bit l4 x = 0 := z
      rw [s1, s2] at z2
      rw [if_pos ⟨z', z2⟩] at h
      exact ih (l3 + 1) (l4 + 1) (by omega) (by omega) h
theorem O_turnedBy_2_c (hB : Bsh X.2.2.1) {m0 : Mm} (hI : CI X m0 c K B pf q) {x : Int} (hx : 0 ≤ x ∧ x < kNm K) : ∀ (f : Nat) (m : Mm) (l3 : Int) (o : Option Int), 0 ≤ l3 → pw (kNm K) - l3 = f → SmC m0 m → (∀ s, 0 ≤ s → s < l3 → m 71 s = sdBy K B pf q (fun j => 2 * bit s j)) → (∀ m', SmC m0 m' → Q (cntF (fun s => sdBy K B pf q (fun j => 2 * bit s j)) x (pw (kNm K)).toNat 0 0) m') → O_turnedBy_2 X (d + 9) x l3 o m Q := by
  intro f
  have hp := pw_le (hI.2.2.2.2.2 (by omega)).1.2.2.2.2.1.1
  induction f with
  | zero =>
    intro m l3 o hl hf hs h1 h
    have hI2 := hI.sm hs
    obtain ⟨b1, b2, b3, b4, b5⟩ := hI2.2.2.2.2.2 (by omega)
    refine O_turnedBy_2w hB (S_everyone_c hB b1 ⟨by omega, by omega, fun _ => ?_, fun z => by omega⟩)
    exact O_turnedBy_100_c hB hI2 hx (fun s g1 g2 => h1 s g1 (by omega)) (fun s => sideA_r _ _) (pw (kNm K)).toNat 0 0 (by omega) (by omega) (h m hs)
  | succ f ih =>
    intro m l3 o hl hf hs h1 h
    have hI2 := hI.sm hs
    obtain ⟨b1, b2, b3, b4, b5⟩ := hI2.2.2.2.2.2 (by omega)
    refine O_turnedBy_2w hB (S_everyone_c hB b1 ⟨by omega, by omega, fun z => by omega, fun _ => T_copy_c hB (by decide) (by decide) (by decide) ?_⟩)
    have hc : Sc 69 m (cpS m 69 17) := cp_sc (Or.inl rfl)
    refine O_turnedBy_24_c hB hI2 (by omega) (by omega) (kNm K).toNat _ 0 (by omega) (by omega) ⟨hc, fun j h1 h2 => by omega, fun j _ g1 g2 => by unfold cpS; rw [if_pos ⟨rfl, g1, by omega⟩]⟩ (fun m' o' hs' => ?_)
    have e71 : m' 71 = m 71 := hs'.2.2 71 (by decide)
    refine ih _ (l3 + 1) _ (by omega) (by omega) ((hs.tr (hs'.sm (Or.inl rfl))).tr (SmC.fr ((Fr.rf [71] _).up (by simp)) (by decide))) (fun s g1 g2 => ?_) h
    rw [up_at, e71]
    by_cases z : s = l3
    · rw [if_pos z, z]
    · rw [if_neg z]
      exact h1 s g1 (by omega)
theorem V_power_c (hB : Bsh X.2.2.1) (hI : CI X m c K B pf q) {x : Int} (hx : R3 x) (h : ∀ m', SmC m m' → Q (FPower K B pf q x) m') : V_power X (d + 12) x m Q := by
  have hn := hI.mem
  have h4 := hI.2.2.2.1
  unfold FPower at h
  refine V_powerw hB (V_isMember_c hB hI.1 hI.2.1 hn hx (fun z1 z2 => q1e ?_) (fun z => q0e ?_))
  · rw [if_neg (by omega)] at h
    have hp := pw_le (hI.2.2.2.2.2 (by omega)).1.2.2.2.2.1.1
    exact O_turnedByw hB (O_turnedBy_2_c hB hI (by omega) (pw (kNm K)).toNat m 0 none (by omega) (by omega) (SmC.rf m) (fun s g1 g2 => by omega) h)
  · rw [if_pos (by omega)] at h
    exact h m (SmC.rf m)
theorem M_sideBy_6_c (hB : Bsh X.2.2.1) {m0 : Mm} (hI : MI X m0 K B pf q) (hp : 0 < kNm K) {x : Int} : ∀ (f : Nat) (m : Mm) (l2 : Int), 0 ≤ l2 → kNm K - l2 = f → TrM m0 m → (∀ j, m 101 j = if 0 ≤ j ∧ j < l2 then 2 * bit x j else q j) → (∀ m', SmM m0 m' → Q (sdBy K B pf q (fun j => 2 * bit x j)) m') → M_sideBy_6 X (d + 10) x l2 m Q := by
  intro f
  obtain ⟨b1, b2, b3⟩ := hI.2.2.2.2 hp
  have hn := hI.2.2.2.1
  have ew := hI.w
  induction f with
  | zero =>
    intro m l2 hl hf hT h1 h
    have hv := b1.trm hT
    have e28 : m 83 28 = kNm K := by rw [← hv.1]; rfl
    have q1 : m 101 = leanS q (kNm K) (fun j => 2 * bit x j) := by
      funext j
      rw [h1 j]
      unfold leanS
      have e : l2 = kNm K := by omega
      rw [e]
    have hQ : Qok K (leanS q (kNm K) (fun j => 2 * bit x j)) := b3.lean hn.2 (fun k h1 h2 => by unfold leanS; rw [if_pos ⟨h1, h2⟩]; have := bit_r x k; dsimp only; omega) (fun j hj => by unfold leanS; rw [if_neg (by omega)])
    refine M_sideBy_6w hB ⟨by omega, by omega, fun _ => M_layEnd_c hB b1 hT (by rw [ew]; exact b2.w) (by rw [q1]; exact hQ) (fun m3 s1 s2 s3 s4 _ _ => ?_), fun z => by omega⟩
    have k3 := (b1.sm s1).1
    have e98 : m3 98 0 = kR K 0 := by rw [← k3]; rfl
    have hw := b1.2.2.1.2.2.1
    rw [q1, ew] at s2
    have hcl := (end_ok (wt := wtB B) (pf := pf) b1.2.2.1 hQ).col b1.2.2.1
    refine M_sideOf_c hB (by omega) (by omega) ?_
    rw [k3, s2]
    exact h m3 s1
  | succ f ih =>
    intro m l2 hl hf hT h1 h
    have hv := b1.trm hT
    have e28 : m 83 28 = kNm K := by rw [← hv.1]; rfl
    have nx : ∀ v, v = 2 * bit x l2 → M_sideBy_6 X (d + 10) x (l2 + 1) (up m 101 l2 v) Q := fun v hv => ih _ (l2 + 1) (by omega) (by omega) (hT.set (by omega)) (fun j => by
      rw [up_at]
      by_cases z : j = l2
      · rw [if_pos z, if_pos (by omega), hv, z]
      · rw [if_neg z, h1 j]
        by_cases z2 : 0 ≤ j ∧ j < l2
        · rw [if_pos z2, if_pos (by omega)]
        · rw [if_neg z2, if_neg (by omega)]) h
    exact M_sideBy_6w hB ⟨by omega, by omega, fun z => by omega, fun _ => M_has_c (fun z => q0e ⟨by omega, nx 0 (by rw [z]; rfl)⟩) (fun z => q1e ⟨by omega, nx 2 (by rw [z]; rfl)⟩)⟩
theorem M_sideBy_c (hB : Bsh X.2.2.1) (hI : MI X m K B pf q) (hp : 0 < kNm K) {x : Int} (h : ∀ m', SmM m m' → Q (sdBy K B pf q (fun j => 2 * bit x j)) m') : M_sideBy X (d + 10) x m Q := by
  refine M_sideByw hB (M_putAside_t hB (fun m1 t1 t2 t3 _ _ => ?_))
  exact M_sideBy_6_c hB hI hp (kNm K).toNat m1 0 (by omega) (by have := hI.2.2.2.1; omega) t1 (fun j => by rw [if_neg (by omega), t2, hI.2.2.1]) h
theorem M_power_14_c (hB : Bsh X.2.2.1) {m0 : Mm} {x : Int} (hx : 0 ≤ x ∧ x < kNm K) : ∀ (f : Nat) (m : Mm) (l2 l3 : Int), MI X m K B pf q → 0 ≤ l3 → pw (kNm K) - l3 = f → SmM m0 m → (∀ m', SmM m0 m' → Q (cntF (fun s => sdBy K B pf q (fun j => 2 * bit s j)) x f l3 l2) m') → M_power_14 X (d + 11) x l2 l3 m Q := by
  intro f
  induction f with
  | zero =>
    intro m l2 l3 hI hl hf hs h
    have hn := hI.2.2.2.1
    have hp := pw_le (hI.2.2.2.2 (by omega)).1.2.2.1.1
    have e28 := hI.n
    refine M_power_14w hB (M_everybody_c hB (by omega) ?_)
    rw [e28]
    exact ⟨by omega, by omega, fun _ => h m hs, fun z => by omega⟩
  | succ f ih =>
    intro m l2 l3 hI hl hf hs h
    have hn := hI.2.2.2.1
    have hp := pw_le (hI.2.2.2.2 (by omega)).1.2.2.1.1
    have e28 := hI.n
    refine M_power_14w hB (M_everybody_c hB (by omega) ?_)
    rw [e28]
    refine ⟨by omega, by omega, fun z => by omega, fun _ => M_has_c (fun z => q0n ?_) (fun z => q1n ?_)⟩
    · refine M_sideBy_c hB hI (by omega) (fun m1 s1 => M_sideBy_c hB (hI.sm s1) (by omega) (fun m2 s2 => ?_))
      have r1 := sideA_r K (endA K (wtB B) pf (leanS q (kNm K) (fun j => 2 * bit l3 j)) 22)
      have r2 := sideA_r K (endA K (wtB B) pf (leanS q (kNm K) (fun j => 2 * bit (iO l3 (iSl 1 x)) j)) 22)
      refine ⟨by unfold sdBy; omega, by unfold sdBy; omega, fun z2 => ih m2 _ (l3 + 1) ((hI.sm s1).sm s2) (by omega) (by omega) ((hs.tr s1).tr s2) (fun m' h' => ?_), fun z2 => ih m2 _ (l3 + 1) ((hI.sm s1).sm s2) (by omega) (by omega) ((hs.tr s1).tr s2) (fun m' h' => ?_)⟩
      · have := h m' h'
        unfold cntF at this
        rw [if_neg (fun e => e.2 z2)] at this
        exact this
      · have := h m' h'
        unfold cntF at this
        rw [if_pos ⟨z, z2⟩] at this
        exact this
    · refine ih m _ (l3 + 1) hI (by omega) (by omega) hs (fun m' h' => ?_)
      have := h m' h'
      unfold cntF at this
      rw [if_neg (by omega)] at this
      exact this
theorem M_power_c (hB : Bsh X.2.2.1) (hI : MI X m K B pf q) {x : Int} (hx : R3 x) (h : ∀ m', SmM m m' → Q (FPower K B pf q x) m') : M_power X (d + 12) x m Q := by
  have hn := hI.2.2.2.1
  have e28 := hI.n
  unfold FPower at h
  refine M_powerw hB (M_isMember_c hB (by omega) hx (fun z1 z2 => q1n ?_) (fun z => q0n ?_))
  · rw [if_neg (by omega)] at h
    have hp := pw_le (hI.2.2.2.2 (by omega)).1.2.2.1.1
    exact M_power_14_c hB (by omega) (pw (kNm K)).toNat m 0 0 hI (by omega) (by omega) (SmM.rf m) h
  · rw [if_pos (by omega)] at h
    exact h m (SmM.rf m)
end Look4
