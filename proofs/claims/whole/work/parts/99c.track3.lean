/-! ===== tracks: the reference ===== -/
def TrX (m m2 : Mm) : Prop := (∀ k, ¬ scF k → m2 83 k = m 83 k) ∧ Fr [83, 92, 93, 100, 101, 104, 105, 106, 110, 111] m m2 ∧ (∀ j, 0 ≤ j → j < 24 → m2 104 j = m 101 j) ∧ (∀ j, (j < 0 ∨ 24 ≤ j) → m2 101 j = m 101 j)
theorem bgQ_p {K : Kn} {B p p' : Int → Int} (h : ∀ j, (j < 0 ∨ 24 ≤ j) → p' j = p j) : bgQ K B p' = bgQ K B p := by
  funext j
  unfold bgQ bgL
  by_cases z : 0 ≤ j ∧ j < 24
  · rw [if_pos (c := 0 ≤ j ∧ j < 24) z, if_pos (c := 0 ≤ j ∧ j < 24) z]
  · rw [if_neg (c := 0 ≤ j ∧ j < 24) z, if_neg (c := 0 ≤ j ∧ j < 24) z, h j (by omega)]
theorem bgQ_W {K : Kn} {B p : Int → Int} {w x : Int} (hn : kNm K ≤ 6) : bgQ K (bW B w x) p = bgQ K B p := by
  funext j
  have e : ∀ i, (i % 4 = 1 ∨ i % 4 = 2) → bW B w x i = B i := by
    intro i hi
    unfold bW
    rw [if_neg (by omega)]
  unfold bgQ bgL
  rw [e (4 * j + 1) (by omega), e (4 * (j - 6) + 2) (by omega)]
theorem bgQ_out {K : Kn} {B p : Int → Int} {j : Int} (hn : 0 ≤ kNm K ∧ kNm K ≤ 6) (h : j < 0 ∨ 24 ≤ j) : bgQ K B p j = p j := by
  unfold bgQ bgL
  rw [if_neg (by omega), if_neg (by omega), if_neg (by omega), if_neg (by omega), if_neg (by omega), if_neg (by omega)]
def whO (n w : Int) : Prop := (0 ≤ w ∧ w < n) ∨ w = 9
def T110 (K : Kn) (B p : Int → Int) (pf : Pf) (x w l4 : Int) (f : Int → Int) : Prop := ∀ w' r, whO (kNm K) w' → 1 ≤ r → r ≤ 20 → (w' < w ∨ (w' = w ∧ r < l4)) → f (21 * w' + r) = tkW K B p pf x w' (min r (kR K 3))
section Track3
variable {X : Cx} {d : Nat} {m : Mm} {Q : Int → Mm → Prop} {Q0 : Mm → Prop} {K : Kn} {pf : Pf} {B p nr nc ni : Int → Int} {N x : Int}
theorem TrX.up {m2 : Mm} (h : TrX m m2) {a : Nat} {j v : Int} (ha : a = 100 ∨ a = 110) : TrX m (up m2 a j v) := by
  obtain ⟨a1, a2, a3, a4⟩ := h
  exact ⟨fun k hk => by rw [up_ne (Or.inl (by omega))]; exact a1 k hk, a2.up (by rcases ha with rfl | rfl <;> simp), fun i h1 h2 => by rw [up_ne (Or.inl (by omega))]; exact a3 i h1 h2, fun i hi => by rw [up_ne (Or.inl (by omega))]; exact a4 i hi⟩
theorem TrX.mv {m2 : Mm} (hv : Mv X m K pf) (h : TrX m m2) : Mv X m2 K pf := hv.of h.1 h.2.1 (fun a ha => by simp at ha; omega)
theorem M_lay_68_c (hB : Bsh X.2.2.1) (hv : Mv X m K pf) (hBk : Bok K B) (hx : 1 ≤ x ∧ x ≤ 5) {w l3 : Int} (hw : whO (kNm K) w) (hl3 : w ≠ 9 → l3 = B (4 * w)) : ∀ (f : Nat) (m2 : Mm) (l4 : Int), TrX m m2 → m2 100 = bW B w x → m2 101 = slN K (wtB (bW B w x)) pf (min (l4 - 1) (kR K 3)).toNat (bgQ K B p) → 1 ≤ l4 → 21 - l4 = f → T110 K B p pf x w l4 (m2 110) → (∀ m3 o3 o4, TrX m m3 → m3 100 = B → T110 K B p pf x (w + 1) 1 (m3 110) → M_layTracks_6 X (d + 8) x (w + 1) o3 o4 m3 Q0) → M_layTracks_68 X (d + 8) x w l3 l4 m2 Q0 := by
  have hK := hv.2.2.1
  have hn := hK.1
  have hk3 := hK.2.2.2.2.2.1
  have hw9 : 0 ≤ w ∧ w ≤ 9 := by rcases hw with h | h <;> omega
  have hQ := bgQ_ok (p := p) hK hBk
  have hW : Wok K (wtB (bW B w x)) := bW_ok hn.2 hBk hx
  intro f
  induction f with
  | zero =>
    intro m2 l4 hT h100 h101 hl hf h110 h
    have h110' : T110 K B p pf x (w + 1) 1 (m2 110) := fun w' r g1 g2 g3 g4 => h110 w' r g1 g2 g3 (by omega)
    refine M_layTracks_68w hB ⟨by omega, fun _ => ⟨by omega, fun z => h m2 _ _ hT (by rw [h100, z, bW9]) h110', fun z => ⟨by rcases hw with g | g <;> omega, h _ _ _ (hT.up (Or.inl rfl)) ?_ (by rw [up_off (by decide)]; exact h110')⟩⟩, fun z => by omega⟩
    have hw6 : 0 ≤ w ∧ w < 6 := by rcases hw with g | g <;> omega
    funext j
    rw [up_at, h100, hl3 z]
    unfold bW
    by_cases z2 : j = 4 * w
    · rw [if_pos z2, z2]
    · rw [if_neg z2, if_neg (fun e => z2 e.2)]
  | succ f ih =>
    intro m2 l4 hT h100 h101 hl hf h110 h
    have hv2 := TrX.mv hv hT
    have e98 : m2 98 3 = kR K 3 := by rw [← hv2.1]; rfl
    have hok := slN_ok (wt := wtB (bW B w x)) (pf := pf) hK (min (l4 - 1) (kR K 3)).toNat (bgQ K B p) hQ (by rw [bg21 hn.2]; omega)
    have b21 : bgQ K B p 21 = 0 := bg21 hn.2
    have e21 : m2 101 21 = min (l4 - 1) (kR K 3) := by rw [h101, hok.2.1, b21]; omega
    have ew : wtM m2 = wtB (bW B w x) := by rw [← h100]; rfl
    have go : ∀ m3 : Mm, TrX m m3 → m3 100 = bW B w x → m3 110 = m2 110 → m3 101 = slN K (wtB (bW B w x)) pf (min (l4 + 1 - 1) (kR K 3)).toNat (bgQ K B p) → M_layTracks_87 X (d + 8) x w l3 l4 m3 Q0 := by
      intro m3 g1 g2 g3 g4
      refine M_layTracks_87w hB ⟨by omega, ih _ (l4 + 1) (g1.up (Or.inr rfl)) (by rw [up_off (by decide)]; exact g2) (by rw [up_off (by decide)]; exact g4) (by omega) (by omega) (fun w' r q1 q2 q3 q4 => ?_) h⟩
      rw [up_at, g3]
      by_cases z : w' = w ∧ r = l4
      · rw [if_pos (by omega), g4, z.1, z.2]
        unfold tkW tkC
        congr 2
        omega
      · have hw' : 0 ≤ w' := by rcases q1 with h | h <;> omega
        rw [if_neg (by omega)]
        exact h110 w' r q1 q2 q3 (by omega)
    refine M_layTracks_68w hB ⟨by omega, fun z => by omega, fun _ => M_isLast_c hB (by omega) (by omega) (fun z => q1n ?_) (fun z => q0n ?_)⟩
    · refine go m2 hT h100 rfl ?_
      rw [h101]
      congr 1
      omega
    · refine M_slide_c hB hv2 (by rw [ew]; exact hW) (by rw [h101]; exact hok.1) (fun m3 k1 k2 k3 => ?_)
      rw [ew, h101, ← slN_s] at k1
      have ef : (min (l4 - 1) (kR K 3)).toNat + 1 = (min (l4 + 1 - 1) (kR K 3)).toNat := by omega
      rw [ef] at k1
      have hok2 := slN_ok (wt := wtB (bW B w x)) (pf := pf) hK (min (l4 + 1 - 1) (kR K 3)).toNat (bgQ K B p) hQ (by rw [b21]; omega)
      refine go m3 ⟨fun k hk => (k3 k (fun z => hk (Or.inl z))).trans (hT.1 k hk), hT.2.1.tr (k2.wd (by decide)), fun j h1 h2 => by rw [k2 104 (by decide)]; exact hT.2.2.1 j h1 h2, fun j hj => ?_⟩ (by rw [k2 100 (by decide)]; exact h100) (k2 110 (by decide)) k1
      rw [k1, hok2.2.2 j hj, ← hok.2.2 j hj, ← h101]
      exact hT.2.2.2 j hj
theorem M_isWho_c {m2 : Mm} (hB : Bsh X.2.2.1) (hn : 0 ≤ m2 83 28 ∧ m2 83 28 ≤ 6) {w : Int} (hw : 0 ≤ w ∧ w ≤ 9) (hy : whO (m2 83 28) w → Q 1 m2) (ho : ¬ whO (m2 83 28) w → Q 0 m2) : M_isWho X (d + 2) w m2 Q := by
  refine M_isWhow hB ⟨by omega, fun z => hy (Or.inr z), fun z => M_isMember_c hB hn (by unfold R3; omega) (fun z1 z2 => q1e (hy (Or.inl ⟨z1, z2⟩))) (fun z1 => q0e (ho (by unfold whO; omega)))⟩
theorem M_lay_6_c (hB : Bsh X.2.2.1) (hv : Mv X m K pf) (hBk : Bok K B) (hx : 1 ≤ x ∧ x ≤ 5) (hp : ∀ j, (j < 0 ∨ 24 ≤ j) → m 101 j = p j) : ∀ (f : Nat) (m2 : Mm) (l2 : Int) (o3 o4 : Option Int), TrX m m2 → m2 100 = B → 0 ≤ l2 → 10 - l2 = f → T110 K B p pf x l2 1 (m2 110) → (∀ m3, TrX m m3 → m3 100 = B → T110 K B p pf x 10 1 (m3 110) → M_takeBack X (d + 7) m3 Q0) → M_layTracks_6 X (d + 8) x l2 o3 o4 m2 Q0 := by
  have hK := hv.2.2.1
  have hn := hK.1
  intro f
  induction f with
  | zero =>
    intro m2 l2 o3 o4 hT h100 hl hf h110 h
    refine M_layTracks_6w hB ⟨by omega, fun _ => h m2 hT h100 (by rw [show (10 : Int) = l2 by omega]; exact h110), fun z => by omega⟩
  | succ f ih =>
    intro m2 l2 o3 o4 hT h100 hl hf h110 h
    have hv2 := TrX.mv hv hT
    have e28 : m2 83 28 = kNm K := by rw [← hv2.1]; rfl
    have next : ∀ m3 o3 o4, TrX m m3 → m3 100 = B → T110 K B p pf x (l2 + 1) 1 (m3 110) → M_layTracks_6 X (d + 8) x (l2 + 1) o3 o4 m3 Q0 := fun m3 o3 o4 g1 g2 g3 => ih m3 (l2 + 1) o3 o4 g1 g2 (by omega) (by omega) g3 h
    have beg : ∀ (m3 : Mm) (l3 : Int), TrX m m3 → m3 100 = bW B l2 x → m3 110 = m2 110 → whO (kNm K) l2 → (l2 ≠ 9 → l3 = B (4 * l2)) → M_begin X (d + 7) m3 (fun m62 => M_layTracks_68 X (d + 8) x l2 l3 1 m62 Q0) := by
      intro m3 l3 g1 g2 g3 g4 g5
      have hv3 := TrX.mv hv g1
      refine M_begin_c hB (by omega) hv3.1 g2 (fun m4 k1 k2 => ?_)
      have ep : bgQ K (bW B l2 x) (m3 101) = bgQ K B p := by
        rw [bgQ_W hn.2]
        exact bgQ_p (fun j hj => (g1.2.2.2 j hj).trans (hp j hj))
      rw [ep] at k1
      refine M_lay_68_c hB hv hBk hx g4 g5 20 m4 1 ⟨fun k hk => by rw [k2 83 (by decide)]; exact g1.1 k hk, g1.2.1.tr (k2.wd (by decide)), fun j h1 h2 => by rw [k2 104 (by decide)]; exact g1.2.2.1 j h1 h2, fun j hj => by rw [k1, bgQ_out (by omega) hj]; exact (hp j hj).symm⟩ (by rw [k2 100 (by decide)]; exact g2) (by rw [k1, show (min (1 - 1) (kR K 3)).toNat = 0 by have := hK.2.2.2.2.2.1; omega]; rfl) (by decide) (by decide) (by rw [k2 110 (by decide), g3]; exact h110) next
    refine M_layTracks_6w hB ⟨by omega, fun z => by omega, fun _ => M_isWho_c hB (by omega) (by omega) (fun z => q1e ⟨fun z9 => M_of_c hB (by rcases z with g | g <;> omega) ⟨fun e => absurd e z9, fun _ => ?_⟩, fun z9 => ⟨fun _ => beg m2 0 hT (by rw [z9, bW9]; exact h100) rfl (Or.inr z9) (fun e => absurd z9 e), fun e => absurd z9 e⟩⟩) (fun z => q0e (next m2 o3 o4 hT h100 ?_))⟩
    · have hz : 0 ≤ l2 ∧ l2 < kNm K := by rcases z with g | g <;> omega
      have hbb := hBk l2 hz.1 hz.2
      rw [Int.add_zero, h100]
      refine ⟨by omega, by omega, beg _ (B (4 * l2)) (hT.up (Or.inl rfl)) ?_ (up_off (by decide)) (Or.inl hz) (fun _ => rfl)⟩
      funext j
      rw [up_at, h100]
      unfold bW
      by_cases z2 : j = 4 * l2
      · rw [if_pos z2, if_pos ⟨by omega, z2⟩]
        omega
      · rw [if_neg z2, if_neg (fun e => z2 e.2)]
    · intro w' r g1 g2 g3 g4
      refine h110 w' r g1 g2 g3 ?_
      rw [e28] at z
      rcases g4 with g4 | g4
      · by_cases e : w' = l2
        · rw [e] at g1; exact absurd g1 z
        · omega
      · omega
theorem M_lay_c (hB : Bsh X.2.2.1) (hv : Mv X m K pf) (hBk : Bok K B) (hx : 1 ≤ x ∧ x ≤ 5) (h100 : m 100 = B) (h : ∀ m', SmM m m' → m' 101 = m 101 → T110 K B (m 101) pf x 10 1 (m' 110) → Q0 m') : M_layTracks X (d + 8) x m Q0 := by
  refine M_layTracksw hB (M_putAside_t hB (fun m1 g1 g2 g3 g4 g5 => ?_))
  refine M_lay_6_c hB hv hBk hx (p := m 101) (fun _ _ => rfl) 10 m1 0 none none ⟨g1.1, g1.2.1.wd (by decide), g1.2.2.1, g1.2.2.2⟩ (by rw [g5 100 (by decide)]; exact h100) (by decide) (by decide) (fun w' r q1 q2 q3 q4 => ?_) (fun m3 k1 k2 k3 => M_takeBack_c hB ?_)
  · rcases q1 with e | e <;> omega
  · have e101 : upR m3 101 0 24 (m3 104) 101 = m 101 := by
      funext j
      by_cases z : 0 ≤ j ∧ j < 24
      · rw [upR_in z]
        exact k1.2.2.1 j z.1 z.2
      · rw [upR_out (by omega)]
        exact k1.2.2.2 j (by omega)
    refine h _ ⟨fun k hk => by rw [upR_off (by decide)]; exact k1.1 k hk, fun a ha => ?_⟩ e101 (by rw [upR_off (by decide)]; exact k3)
    by_cases z : a = 101
    · rw [z]; exact e101
    · rw [upR_off z]
      by_cases z2 : a = 100
      · rw [z2, k2, h100]
      · exact k1.2.1 a (by simp at ha ⊢; omega)
end Track3
