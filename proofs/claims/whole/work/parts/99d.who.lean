/-! ===== who, best: both sides ===== -/
def whB (n w : Int) : Bool := (decide (0 ≤ w) && decide (w < n)) || decide (w = 9)
def so2 (n : Int) (so : Int → Bool) (w : Int) : Bool := whB n w && so w
def reL (s : Int → Bool) : Nat → Int → List Int
  | 0, _ => []
  | f + 1, l => (if s l = true then [l] else []) ++ reL s f (l + 1)
theorem cl_re (so : Int → Bool) {n : Int} (hn : 1 ≤ n ∧ n ≤ 6) : clL so n (n + 1).toNat 0 = reL (so2 n so) 10 0 := by
  have : n = 1 ∨ n = 2 ∨ n = 3 ∨ n = 4 ∨ n = 5 ∨ n = 6 := by omega
  rcases this with rfl | rfl | rfl | rfl | rfl | rfl <;> rfl
theorem reL_ge (s : Int → Bool) : ∀ (f : Nat) (l : Int), ∀ w ∈ reL s f l, l ≤ w ∧ w < l + f ∧ s w = true
  | 0, _ => fun w h => absurd h (by simp [reL])
  | f + 1, l => fun w h => by
    have h : w ∈ (if s l = true then [l] else []) ++ reL s f (l + 1) := h
    rcases List.mem_append.mp h with g | g
    · split at g
      next e =>
        have : w = l := by simpa using g
        rw [this]
        exact ⟨by omega, by omega, e⟩
      next => exact absurd g (by simp)
    · obtain ⟨a, b, c⟩ := reL_ge s f (l + 1) w g
      exact ⟨by omega, by omega, c⟩
def mxF (cnt : Int → Int) : Nat → Int → Int → Int
  | 0, a, _ => a
  | f + 1, a, c => mxF cnt f (max a (cnt c)) (c + 1)
theorem mxF_z {cnt : Int → Int} : ∀ (g : Nat) (a c : Int), 0 ≤ a → (∀ k, c ≤ k → cnt k = 0) → mxF cnt g a c = a
  | 0, _, _, _, _ => rfl
  | g + 1, a, c, ha, h => by
    show mxF cnt g (max a (cnt c)) (c + 1) = a
    rw [h c (Int.le_refl _), show max a 0 = a by omega]
    exact mxF_z g a (c + 1) ha (fun k hk => h k (by omega))
theorem mxF_ext {cnt : Int → Int} : ∀ (f g : Nat) (a c : Int), 0 ≤ a → (∀ k, c + f ≤ k → cnt k = 0) → mxF cnt (f + g) a c = mxF cnt f a c
  | 0, g, a, c, ha, h => by
    rw [Nat.zero_add]
    exact mxF_z g a c ha (fun k hk => h k (by omega))
  | f + 1, g, a, c, ha, h => by
    rw [show f + 1 + g = (f + g) + 1 by omega]
    exact mxF_ext f g (max a (cnt c)) (c + 1) (by omega) (fun k hk => h k (by omega))
theorem mxF_le {cnt : Int → Int} {b : Int} (h : ∀ k, cnt k ≤ b) : ∀ (f : Nat) (a c : Int), a ≤ b → a ≤ mxF cnt f a c ∧ mxF cnt f a c ≤ b
  | 0, _, _, ha => ⟨Int.le_refl _, ha⟩
  | f + 1, a, c, ha => by
    have h1 := h c
    have := mxF_le h f (max a (cnt c)) (c + 1) (by omega)
    show a ≤ mxF cnt f (max a (cnt c)) (c + 1) ∧ mxF cnt f (max a (cnt c)) (c + 1) ≤ b
    omega
def bsF (most : Int → Int) : Nat → Int → Int → Int → Int
  | 0, l1, _, _ => l1
  | f + 1, l1, l2, l3 => if most l3 < l2 then bsF most f l3 (most l3) (l3 + 1) else bsF most f l1 l2 (l3 + 1)
theorem cntL_0 {tk : Int → Int → Int} {r c : Int} : ∀ {L : List Int}, (∀ w ∈ L, tk w r ≠ c) → cntL tk r c L = 0
  | [], _ => rfl
  | w :: L, h => by
    show cntL tk r c L + _ = 0
    rw [cntL_0 (fun w hw => h w (by simp [hw])), if_neg (h w (by simp))]
    rfl
section Who
variable {X : Cx} {d : Nat} {m : Mm} {A : Ab} {t : Int} {Q : Int → Mm → Prop} {Q0 : Mm → Prop} {c : Nat} {K : Kn} {pf : Pf} {B p nr nc ni : Int → Int} {N x : Int}
/-- the class's row -/
theorem U_row_44_c (hB : Bsh X.2.2.1) {L : List Int} {tk : Int → Int → Int} {l1 l2 l3 : Int} (hl3 : 1 ≤ l3 ∧ l3 ≤ 20) (hL : L.length ≤ 10) (hl2 : -100 ≤ l2 ∧ l2 ≤ 100) (h81 : ∀ k, 0 ≤ k → k < 9 → m 81 (9 * l3 + k) = cntL tk l3 k L) : ∀ (f : Nat) (l4 l5 : Int), 0 ≤ l5 → 9 - l5 = f → (0 ≤ l4 ∧ l4 ≤ 100) → (∀ o4 o5, mxF (fun k => cntL tk l3 k L) f l4 l5 < l2 → U_rowToLookAt_14 X (d + 1) l3 (mxF (fun k => cntL tk l3 k L) f l4 l5) (l3 + 1) o4 o5 m Q) → (∀ o4 o5, l2 ≤ mxF (fun k => cntL tk l3 k L) f l4 l5 → U_rowToLookAt_14 X (d + 1) l1 l2 (l3 + 1) o4 o5 m Q) → U_rowToLookAt_44 X (d + 1) l1 l2 l3 l4 l5 m Q := by
  intro f
  induction f with
  | zero =>
    intro l4 l5 h5 hf h4 ha hb
    exact U_rowToLookAt_44w hB ⟨by omega, fun _ => ⟨by omega, by omega, fun z => hb _ _ z, fun z => ha _ _ z⟩, fun z => by omega⟩
  | succ f ih =>
    intro l4 l5 h5 hf h4 ha hb
    have hr := cntL_r tk l3 l5 L
    have e := h81 l5 h5 (by omega)
    refine U_rowToLookAt_44w hB ⟨by omega, fun z => by omega, fun _ => ⟨by omega, by omega, by omega, ?_⟩⟩
    rw [e]
    exact ih _ (l5 + 1) (by omega) (by omega) (by omega) ha hb
theorem U_row_14_c (hB : Bsh X.2.2.1) (hv : Cv X m c K pf) {L : List Int} {tk : Int → Int → Int} (hL : 0 < L.length ∧ L.length ≤ 10) (h74 : m 74 1 = L.length) (h81 : ∀ r k, 1 ≤ r → r ≤ kR K 3 → 0 ≤ k → k < 9 → m 81 (9 * r + k) = cntL tk r k L) : ∀ (f : Nat) (l1 l2 l3 : Int) (o4 o5 : Option Int), 1 ≤ l3 → kR K 3 + 1 - l3 = f → (0 ≤ l2 ∧ l2 ≤ 100) → Q (bsF (fun r => mxF (fun k => cntL tk r k L) 9 0 0) f l1 l2 l3) m → U_rowToLookAt_14 X (d + 1) l1 l2 l3 o4 o5 m Q := by
  have hK := hv.2.2.2.2.1
  have e3 : m (c + 1) 3 = kR K 3 := hv.2.2.1.2.2.2.1 3 (by omega) (by omega)
  have hk3 := hK.2.2.2.2.2.1
  intro f
  induction f with
  | zero =>
    intro l1 l2 l3 o4 o5 hl hf h2 h
    exact U_rowToLookAt_14w hB ⟨c, hv.1, hv.2.1, K_lastRow_c hB hv.1 ⟨by omega, by omega, fun _ => h, fun z => by omega⟩⟩
  | succ f ih =>
    intro l1 l2 l3 o4 o5 hl hf h2 h
    have hmx := mxF_le (cnt := fun k => cntL tk l3 k L) (b := L.length) (fun k => (cntL_r tk l3 k L).2) 9 0 0 (by omega)
    have h : Q (if mxF (fun k => cntL tk l3 k L) 9 0 0 < l2 then bsF (fun r => mxF (fun k => cntL tk r k L) 9 0 0) f l3 (mxF (fun k => cntL tk l3 k L) 9 0 0) (l3 + 1) else bsF (fun r => mxF (fun k => cntL tk r k L) 9 0 0) f l1 l2 (l3 + 1)) m := h
    refine U_rowToLookAt_14w hB ⟨c, hv.1, hv.2.1, K_lastRow_c hB hv.1 ⟨by omega, by omega, fun z => by omega, fun _ => ⟨by omega, fun z => by omega, fun _ => ?_⟩⟩⟩
    refine U_row_44_c hB (L := L) (tk := tk) (by omega) (by omega) (by omega) (fun k k1 k2 => h81 l3 k hl (by omega) k1 k2) 9 0 0 (by decide) (by decide) (by decide) (fun o4 o5 z => ih _ _ _ _ _ (by omega) (by omega) (by omega) ?_) (fun o4 o5 z => ih _ _ _ _ _ (by omega) (by omega) h2 ?_)
    · rw [if_pos z] at h; exact h
    · rw [if_neg (by omega)] at h; exact h
/-! the reference -/
theorem M_isSo_8_c (hB : Bsh X.2.2.1) {w : Int} (hw : whO (kNm K) w) (hK : Kok K) (hBk : Bok K B) (hN : 0 ≤ N ∧ N ≤ 10) (h48 : m 83 48 = N) (hnt : ∀ j, 0 ≤ j → j < N → m 107 j = nr j ∧ m 108 j = nc j ∧ m 109 j = ni j) (hok : ∀ j, 0 ≤ j → j < N → (1 ≤ nr j ∧ nr j ≤ 20) ∧ (0 ≤ nc j ∧ nc j < 100) ∧ (ni j = 0 ∨ ni j = 1)) (hT : T110 K B p pf x 10 1 (m 110)) : ∀ (f : Nat) (l3 : Int), 0 ≤ l3 → N - l3 = f → (fitF (kR K 3) (tkW K B p pf x w) nr nc ni f l3 = true → Q 1 m) → (fitF (kR K 3) (tkW K B p pf x w) nr nc ni f l3 = false → Q 0 m) → M_isSo_8 X (d + 1) w 1 l3 m Q := by
  have hk3 := hK.2.2.2.2.2.1
  have hk0 := hK.2.2.1
  have hw9 : 0 ≤ w ∧ w ≤ 9 := by have := hK.1; rcases hw with h | h <;> omega
  intro f
  induction f with
  | zero =>
    intro l3 hl hf h1 h0
    exact M_isSo_8w hB ⟨by omega, by omega, fun _ => ⟨Or.inr rfl, h1 rfl⟩, fun z => by omega⟩
  | succ f ih =>
    intro l3 hl hf h1 h0
    obtain ⟨n1, n2, n3⟩ := hnt l3 hl (by omega)
    obtain ⟨k1, k2, k3⟩ := hok l3 hl (by omega)
    have e110 := hT w (nr l3) hw k1.1 k1.2 (by omega)
    have hr := tkW_r (p := p) (pf := pf) (x := x) (w := w) hK hBk (r := min (nr l3) (kR K 3)) (by omega)
    have eF : fitF (kR K 3) (tkW K B p pf x w) nr nc ni (f + 1) l3 = if ni l3 = (if tkW K B p pf x w (min (nr l3) (kR K 3)) = nc l3 then 1 else 0) then fitF (kR K 3) (tkW K B p pf x w) nr nc ni f (l3 + 1) else false := rfl
    have zero : Q 0 m → M_isSo_8 X (d + 1) w 0 (l3 + 1) m Q := fun h => M_isSo_8w hB ⟨by omega, by omega, fun _ => ⟨Or.inl rfl, h⟩, fun _ => ⟨by decide, fun _ => ⟨Or.inl rfl, h⟩, fun e => absurd rfl e⟩⟩
    refine M_isSo_8w hB ⟨by omega, by omega, fun z => by omega, fun _ => ⟨by decide, fun e => absurd e (by decide), fun _ => ⟨by omega, ?_⟩⟩⟩
    rw [n1, n2, n3, e110]
    refine ⟨by omega, by omega, by omega, fun z => ⟨by omega, fun z2 => zero (h0 ?_), fun z2 => ih _ (by omega) (by omega) (fun e => h1 ?_) (fun e => h0 ?_)⟩, fun z => ⟨by omega, fun z2 => zero (h0 ?_), fun z2 => ih _ (by omega) (by omega) (fun e => h1 ?_) (fun e => h0 ?_)⟩⟩
    · rw [eF, if_neg z, if_neg (fun e => z2 e.symm)]
    · rw [eF, if_neg z, if_pos z2.symm]; exact e
    · rw [eF, if_neg z, if_pos z2.symm]; exact e
    · rw [eF, if_pos z, if_neg (fun e => z2 e.symm)]
    · rw [eF, if_pos z, if_pos z2.symm]; exact e
    · rw [eF, if_pos z, if_pos z2.symm]; exact e
theorem whB_e {n w : Int} : whB n w = true ↔ whO n w := by
  unfold whB whO
  simp
theorem M_isSo_c (hB : Bsh X.2.2.1) {w : Int} (hw : 0 ≤ w ∧ w ≤ 9) (hK : Kok K) (hBk : Bok K B) (h28 : m 83 28 = kNm K) (hN : 0 ≤ N ∧ N ≤ 10) (h48 : m 83 48 = N) (hnt : ∀ j, 0 ≤ j → j < N → m 107 j = nr j ∧ m 108 j = nc j ∧ m 109 j = ni j) (hok : ∀ j, 0 ≤ j → j < N → (1 ≤ nr j ∧ nr j ≤ 20) ∧ (0 ≤ nc j ∧ nc j < 100) ∧ (ni j = 0 ∨ ni j = 1)) (hT : T110 K B p pf x 10 1 (m 110)) (h1 : so2 (kNm K) (soW K B p pf x N nr nc ni) w = true → Q 1 m) (h0 : so2 (kNm K) (soW K B p pf x N nr nc ni) w = false → Q 0 m) : M_isSo X (d + 3) w m Q := by
  have hn := hK.1
  refine M_isSow hB (M_isWho_c hB (by omega) hw (fun z => ?_) (fun z => ?_))
  · rw [h28] at z
    have eb : whB (kNm K) w = true := whB_e.mpr z
    refine M_isSo_8_c hB z hK hBk hN h48 hnt hok hT N.toNat 0 (by decide) (by omega) (fun e => h1 ?_) (fun e => h0 ?_)
    · unfold so2 soW; rw [eb, e]; rfl
    · unfold so2 soW; rw [eb, e]; rfl
  · rw [h28] at z
    have eb : whB (kNm K) w = false := by
      cases e : whB (kNm K) w
      · rfl
      · exact absurd (whB_e.mp e) z
    have h := h0 (by unfold so2; rw [eb]; rfl)
    exact M_isSo_8w hB ⟨by omega, by omega, fun _ => ⟨Or.inl rfl, h⟩, fun _ => ⟨by decide, fun _ => ⟨Or.inl rfl, h⟩, fun e => absurd rfl e⟩⟩
theorem M_who_25_c (hB : Bsh X.2.2.1) {so : Int → Bool} (hso : ∀ (w : Int) (Q : Int → Mm → Prop), 0 ≤ w → w ≤ 9 → (so w = true → Q 1 m) → (so w = false → Q 0 m) → M_isSo X (d + 3) w m Q) {y : Int} (hy : R3 y) : ∀ (f : Nat) (l3 l4 : Int), 0 ≤ l4 → 10 - l4 = f → (0 ≤ l3 ∧ l3 ≤ l4) → Q (pkF (reL so f l4) l3 y) m → M_who_25 X (d + 4) x y l3 l4 m Q := by
  intro f
  induction f with
  | zero =>
    intro l3 l4 hl hf h3 h
    have h : Q (if y = -1 then l3 else -1) m := h
    refine M_who_25w hB ⟨by omega, fun _ => ⟨hy, fun z => ?_, fun z => ?_⟩, fun z => by omega⟩
    · rw [if_neg z] at h; exact h
    · rw [if_pos z] at h; exact h
  | succ f ih =>
    intro l3 l4 hl hf h3 h
    have h : Q (pkF ((if so l4 = true then [l4] else []) ++ reL so f (l4 + 1)) l3 y) m := h
    refine M_who_25w hB ⟨by omega, fun z => by omega, fun _ => hso l4 _ hl (by omega) (fun z => q1e ⟨by omega, hy, fun z2 => ih _ _ (by omega) (by omega) (by omega) ?_, fun z2 => ?_⟩) (fun z => q0e (ih _ _ (by omega) (by omega) (by omega) ?_))⟩
    · rw [if_pos z] at h
      have h : Q (if l3 = y then l4 else pkF (reL so f (l4 + 1)) (l3 + 1) y) m := h
      rw [if_neg z2] at h
      exact h
    · rw [if_pos z] at h
      have h : Q (if l3 = y then l4 else pkF (reL so f (l4 + 1)) (l3 + 1) y) m := h
      rw [if_pos z2] at h
      exact h
    · rw [if_neg (by rw [z]; decide)] at h
      exact h
theorem M_most_20_c (hB : Bsh X.2.2.1) {so : Int → Bool} (hso : ∀ (w : Int) (Q : Int → Mm → Prop), 0 ≤ w → w ≤ 9 → (so w = true → Q 1 m) → (so w = false → Q 0 m) → M_isSo X (d + 3) w m Q) {tk : Int → Int → Int} {r l2 l3 : Int} (hr : 1 ≤ r ∧ r ≤ 20) (h2 : 0 ≤ l2 ∧ l2 ≤ 100) (h3 : 0 ≤ l3 ∧ l3 < 10) (htk : ∀ w, 0 ≤ w → w ≤ 9 → so w = true → m 110 (21 * w + r) = tk w r ∧ 0 ≤ tk w r ∧ tk w r < 9) : ∀ (f : Nat) (l4 l5 : Int), 0 ≤ l5 → 10 - l5 = f → (0 ≤ l4 ∧ l4 ≤ l5) → (∀ o4 o5, M_mostTell_4 X (d + 4) r (max l2 (l4 + cntL tk r l3 (reL so f l5))) (l3 + 1) o4 o5 m Q) → M_mostTell_20 X (d + 4) r l2 l3 l4 l5 m Q := by
  intro f
  induction f with
  | zero =>
    intro l4 l5 hl hf h4 h
    have := h (some l4) (some l5)
    rw [show l4 + cntL tk r l3 (reL so 0 l5) = l4 by show l4 + 0 = l4; omega] at this
    exact M_mostTell_20w hB ⟨by omega, fun _ => ⟨by omega, by omega, this⟩, fun z => by omega⟩
  | succ f ih =>
    intro l4 l5 hl hf h4 h
    have e : reL so (f + 1) l5 = (if so l5 = true then [l5] else []) ++ reL so f (l5 + 1) := rfl
    rw [e] at h
    refine M_mostTell_20w hB ⟨by omega, fun z => by omega, fun _ => hso l5 _ hl (by omega) (fun z => q1e ?_) (fun z => q0e (ih _ _ (by omega) (by omega) (by omega) (fun o4 o5 => ?_)))⟩
    · obtain ⟨t1, t2, t3⟩ := htk l5 hl (by omega) z
      rw [if_pos z] at h
      have ec : cntL tk r l3 ([l5] ++ reL so f (l5 + 1)) = cntL tk r l3 (reL so f (l5 + 1)) + (if tk l5 r = l3 then 1 else 0) := rfl
      rw [ec] at h
      rw [t1]
      refine ⟨by omega, by omega, by omega, fun z2 => ih _ _ (by omega) (by omega) (by omega) (fun o4 o5 => ?_), fun z2 => ih _ _ (by omega) (by omega) (by omega) (fun o4 o5 => ?_)⟩
      · have := h o4 o5
        rw [if_neg z2, Int.add_zero] at this
        exact this
      · have := h o4 o5
        rw [if_pos z2] at this
        rw [show l4 + 1 + cntL tk r l3 (reL so f (l5 + 1)) = l4 + (cntL tk r l3 (reL so f (l5 + 1)) + 1) by omega]
        exact this
    · have := h o4 o5
      rw [if_neg (by rw [z]; decide)] at this
      exact this
theorem M_mostTell_c (hB : Bsh X.2.2.1) {so : Int → Bool} (hso : ∀ (w : Int) (Q : Int → Mm → Prop), 0 ≤ w → w ≤ 9 → (so w = true → Q 1 m) → (so w = false → Q 0 m) → M_isSo X (d + 3) w m Q) {tk : Int → Int → Int} {r n0 : Int} (h98 : m 98 0 = n0) (hn0 : 3 ≤ n0 ∧ n0 ≤ 9) (hr : 1 ≤ r ∧ r ≤ 20) (htk : ∀ w, 0 ≤ w → w ≤ 9 → so w = true → m 110 (21 * w + r) = tk w r ∧ 0 ≤ tk w r ∧ tk w r < 9) : ∀ (f : Nat) (l2 l3 : Int) (o4 o5 : Option Int), 0 ≤ l3 → n0 - l3 = f → (0 ≤ l2 ∧ l2 ≤ 100) → Q (mxF (fun k => cntL tk r k (reL so 10 0)) f l2 l3) m → M_mostTell_4 X (d + 4) r l2 l3 o4 o5 m Q := by
  have hlen : (reL so 10 0).length ≤ 10 := by
    have g : ∀ (f : Nat) (l : Int), (reL so f l).length ≤ f := by
      intro f
      induction f with
      | zero => intro l; exact Nat.le_refl _
      | succ f ih =>
        intro l
        have := ih (l + 1)
        show ((if so l = true then [l] else []) ++ reL so f (l + 1)).length ≤ f + 1
        rw [List.length_append]
        split
        · rw [List.length_singleton]; omega
        · rw [List.length_nil]; omega
    exact g 10 0
  intro f
  induction f with
  | zero =>
    intro l2 l3 o4 o5 hl hf h2 h
    exact M_mostTell_4w hB ⟨by omega, by omega, fun _ => h, fun z => by omega⟩
  | succ f ih =>
    intro l2 l3 o4 o5 hl hf h2 h
    have hc := cntL_r tk r l3 (reL so 10 0)
    refine M_mostTell_4w hB ⟨by omega, by omega, fun z => by omega, fun _ => M_most_20_c hB hso hr h2 (by omega) htk 10 0 0 (by decide) (by decide) (by decide) (fun o4 o5 => ih _ _ _ _ (by omega) (by omega) (by omega) ?_)⟩
    rw [Int.zero_add]
    exact h
end Who
