/-! ===== acts ===== -/
theorem Lg.c24 {E : Int → Int} {lg : Int} {q q' : Int → Int} (h : Lg E lg q) (hq : ∀ j, 24 ≤ j → q' j = q j) : Lg E lg q' := by
  obtain ⟨⟨a0, a1⟩, a2, a3, a4⟩ := h
  unfold Lg lrng
  rw [hq 24 (by omega)]
  refine ⟨⟨a0, fun i h1 h2 => ?_⟩, a2, a3, fun i h1 h2 => ?_⟩
  · rw [hq _ (by omega), hq _ (by omega), hq _ (by omega)]
    exact a1 i h1 h2
  · rw [a4 i h1 h2]
    unfold lrow
    rw [hq _ (by omega), hq _ (by omega), hq _ (by omega)]
theorem CR.q {m m' : Mm} {K : Kn} {B q q' : Int → Int} {AL : List (Int → Int)} {r : Int} (h : CR m K B q AL r) (hS : Sr K (wtB B) (m' 17) q') (h10 : m' 17 10 = m 17 10) (hq : ∀ j, 24 ≤ j → q' j = q j) (hf : ∀ a, a ≠ 17 → m' a = m a) : CR m' K B q' AL r := by
  obtain ⟨e1, e2, e3, e4, e5, e6, e7, e8⟩ := h
  unfold CR lgs
  rw [h10, hf 21 (by decide), hf 22 (by decide), hf 23 (by decide)]
  refine ⟨hS, e2.c24 hq, e3, e4, e5, e6, fun i hi => ?_, fun i j h1 h2 => ?_⟩
  · have := slot_r (m 21 4) AL.length i
    rw [hf _ (by omega)]
    exact e7 i hi
  · have s1 := slot_r (m 21 4) AL.length i
    have s2 := slot_r (m 21 4) AL.length j
    rw [hf (slotN (m 21 4) AL.length i) (by omega), hf (slotN (m 21 4) AL.length j) (by omega)]
    exact e8 i j h1 h2
def rfA (A : Ab) (i : Int) : Ab := (A.1, A.2.1, A.2.2.1, (fun j => if j = i then abR A i + 1 else abR A j, abD A), A.2.2.2.2)
section Acts
variable {X : Cx} {d : Nat} {m m' : Mm} {A : Ab} {t : Int} {Q : Int → Mm → Prop} {q' : Int → Int} {AL' : List (Int → Int)} {r : Int}
theorem CW.st (h : CW X m A t) (hf : FcS m m') (hC : CR m' (abK A) (abB A) q' AL' r) (hr : 0 ≤ r) (hl : m' 17 10 ≤ 400 * (t + 1)) : CW X m' (setQ A q' AL' (abI A)) (t + 1) := by
  obtain ⟨a1, ⟨c, c2, b1, b2, b3, b4, b5, b6, b7, b8⟩, a3, a4, a5, a6, a7, a8, a9⟩ := h
  obtain ⟨f1, f2, f3, f4⟩ := hf
  have f : ∀ a, a < 17 → m' a = m a := fun a ha => f4 a (Or.inl ha)
  unfold CW
  rw [f 1 (by omega), f 2 (by omega), f 0 (by omega), f1, f4 82 (by omega), f4 73 (by omega), f4 77 (by omega), f4 78 (by omega), f4 79 (by omega)]
  exact ⟨a1, ⟨c, c2, b1, b2, b3, b4, b5, b6, b7.fr (f _ (by omega)) (f _ (by omega)) (f _ (by omega)), fun j h1 h2 => by rw [f (c + 3) (by omega)]; exact b8 j h1 h2⟩, a3.cg (by rw [f 0 (by omega)]) (by rw [f 0 (by omega)]) f2 (f 8 (by omega)) (fun a ha => f4 a (by omega)), hC.weak hr hr, a5.cg f3 (f4 _ (by omega)) (f4 _ (by omega)), hl, a7, a8, a9⟩
theorem FcS.hi (hf : FcS m m') : hiS m m' := fun a ha => hf.2.2.2 a (by omega)
theorem MW.st (h : MW m A) (hf : FmS m m') (hR : MR m' q' AL') : MW m' (setQ A q' AL' (abI A)) := by
  obtain ⟨a1, a2, a3, a4, a5, a6, a7, a8, a9⟩ := h
  obtain ⟨s1, s2⟩ := hf
  have k : ∀ j, (j = 2 ∨ j = 13 ∨ j = 27 ∨ j = 28 ∨ j = 29 ∨ j = 32 ∨ j = 33 ∨ j = 48 ∨ j = 52) → m' 83 j = m 83 j := fun j hj => s1 j (by unfold scF; omega) (by omega)
  unfold MW
  rw [k 2 (by omega), k 33 (by omega), k 48 (by omega), s2 84 (by decide), s2 100 (by decide), s2 102 (by decide), s2 107 (by decide), s2 108 (by decide), s2 109 (by decide)]
  refine ⟨a1, ?_, a3, a4.cg (k 13 (by omega)) (k 32 (by omega)) (fun a x y => s2 a (by simp; omega)), hR, ?_, a7, a8, a9⟩
  · unfold kM at a2 ⊢
    rw [k 27 (by omega), k 28 (by omega), k 29 (by omega), s2 98 (by decide), s2 99 (by decide)]
    exact a2
  · unfold MIm at a6 ⊢
    rw [k 52 (by omega), s2 112 (by decide)]
    exact a6
theorem FmS.lo (hf : FmS m m') : loS m m' := fun a ha => hf.2 a (by simp; omega)
theorem AOk.st (h : AOk A t) (ht : t + 1 ≤ 1000) (hp : 0 < kNm (abK A)) (hq : qOk (abK A) (t + 1) q') (hL : ∀ a ∈ AL', a = abQ A ∨ a ∈ abL A ∨ qOk (abK A) (t + 1) a) : AOk (setQ A q' AL' (abI A)) (t + 1) := by
  obtain ⟨a0, a1, a2, a3, a4, a5, a6, a7, a8, a9⟩ := h.up ht
  refine ⟨a0, a1, a2, fun z => ?_, fun hp => ?_, a5, a6, a7, a8, a9⟩
  · have z' : kNm (abK A) = 0 := z
    omega
  · obtain ⟨b1, b2, b3, b4, b5⟩ := a4 hp
    refine ⟨b1, b2, hq, fun a ha => ?_, b5⟩
    rcases hL a ha with e | e | e
    · rw [e]; exact b3
    · exact b4 a e
    · exact e
theorem kp_mem {AL : List (Int → Int)} {q a : Int → Int} (h : a ∈ kpL AL q) : a = q ∨ a ∈ AL := by
  unfold kpL at h
  rcases List.mem_append.mp h with e | e
  · right
    split at e
    · exact List.mem_of_mem_drop e
    · exact e
  · left
    simpa using e
/-! refusals -/
theorem cw_rf (h : CW X m A t) {i : Int} (hi : 0 ≤ i ∧ i < 5) : CW X (up m 82 i (m 82 i + 1)) (rfA A i) (t + 1) := by
  obtain ⟨a1, ⟨c, c2, b1, b2, b3, b4, b5, b6, b7, b8⟩, a3, a4, a5, a6, a7, a8, a9⟩ := h.up
  have f : ∀ a, a ≠ 82 → up m 82 i (m 82 i + 1) a = m a := fun a ha => up_off ha
  unfold CW
  rw [f 1 (by omega), f 2 (by omega), f 0 (by omega), f 18 (by omega), f 17 (by omega), f 73 (by omega), f 77 (by omega), f 78 (by omega), f 79 (by omega)]
  refine ⟨a1, ⟨c, c2, b1, b2, b3, b4, b5, b6, b7.fr (f _ (by omega)) (f _ (by omega)) (f _ (by omega)), fun j h1 h2 => by rw [f (c + 3) (by omega)]; exact b8 j h1 h2⟩, a3.cg (by rw [f 0 (by omega)]) (by rw [f 0 (by omega)]) (by rw [f 18 (by omega)]) (f 8 (by omega)) (fun a ha => f a (by omega)), a4.cg (f _ (by omega)) (by rw [f 21 (by omega)]) (by rw [f 21 (by omega)]) (f _ (by omega)) (f _ (by omega)) (fun a h1 h2 => f a (by omega)), a5.cg (by rw [f 21 (by omega)]) (f _ (by omega)) (f _ (by omega)), a6, fun j h1 h2 => ?_, a8, a9⟩
  show _ = if j = i then abR A i + 1 else abR A j
  rw [up_at, a7 i hi.1 hi.2, a7 j h1 h2]
theorem MW.rf (h : MW m A) {i : Int} (hi : 0 ≤ i ∧ i < 5) : MW (up m 102 i (m 102 i + 1)) (rfA A i) := by
  obtain ⟨a1, a2, a3, a4, a5, a6, a7, a8, a9⟩ := h
  have f : ∀ a, a ≠ 102 → up m 102 i (m 102 i + 1) a = m a := fun a ha => up_off ha
  unfold MW
  rw [f 83 (by decide), f 84 (by decide), f 100 (by decide), f 107 (by decide), f 108 (by decide), f 109 (by decide)]
  refine ⟨a1, ?_, a3, a4.cg (by rw [f 83 (by decide)]) (by rw [f 83 (by decide)]) (fun a x y => f a (by omega)), ?_, ?_, fun j h1 h2 => ?_, a8, a9⟩
  · unfold kM at a2 ⊢
    rw [f 83 (by decide), f 98 (by decide), f 99 (by decide)]
    exact a2
  · unfold MR at a5 ⊢
    rw [f 83 (by decide), f 101 (by decide), f 103 (by decide)]
    exact a5
  · unfold MIm at a6 ⊢
    rw [f 83 (by decide), f 112 (by decide)]
    exact a6
  · show _ = if j = i then abR A i + 1 else abR A j
    rw [up_at, a7 i hi.1 hi.2, a7 j h1 h2]
theorem AOk.rf (h : AOk A t) (ht : t + 1 ≤ 1000) {i : Int} (hi : 0 ≤ i ∧ i < 5) : AOk (rfA A i) (t + 1) := by
  have h5 := h.2.2.2.2.2.1
  obtain ⟨a0, a1, a2, a3, a4, a5, a6, a7, a8, a9⟩ := h.up ht
  refine ⟨a0, a1, a2, a3, a4, fun j h1 h2 => ?_, a6, a7, a8, a9⟩
  show 0 ≤ (if j = i then abR A i + 1 else abR A j) ∧ (if j = i then abR A i + 1 else abR A j) ≤ t + 1
  have e1 := h5 i hi.1 hi.2
  have e2 := h5 j h1 h2
  split <;> omega
theorem M_isRefused_c (hB : Bsh X.2.2.1) {i : Int} (hi : -1 ≤ i ∧ i < 5) (hn : i = -1 → Q 0 m) (hy : i ≠ -1 → Q 1 (up m 102 i (m 102 i + 1))) : M_isRefused X d i m Q := M_isRefusedw hB ⟨by omega, fun z => ⟨fun _ => hn z, fun z2 => absurd z z2⟩, fun z => ⟨by omega, fun z2 => absurd z2 z, fun _ => hy z⟩⟩
/-- a refused call: both sides -/
theorem bth_rf {V M : Mm → (Int → Mm → Prop) → Prop} (hI : InvA X m A t) (ht : t + 1 ≤ 1000) {i : Int} (hi : 0 ≤ i ∧ i < 5) (hV : ∀ Q : Int → Mm → Prop, Q (-1) (up m 82 i (m 82 i + 1)) → V m Q) (hM : ∀ (m1 : Mm) (Q : Int → Mm → Prop), MW m1 A → Q (-1) (up m1 102 i (m1 102 i + 1)) → M m1 Q) : ∃ A', AOk A' (t + 1) ∧ Bth X A' t V M m := ⟨rfA A i, hI.2.2.rf ht hi, bth_of (F := -1) hI (fun Q h => hV Q (h _ (cw_rf hI.1 hi) (fun a ha => up_off (by omega)))) (fun m1 Q h1 h => hM m1 Q h1 (h _ (h1.rf hi) (fun a ha => up_off (by omega))))⟩
/-- an act: both sides -/
theorem bth_act {V M : Mm → (Int → Mm → Prop) → Prop} {F : Int} (hI : InvA X m A t) (ht : t + 1 ≤ 1000) (hp : 0 < kNm (abK A)) (hq : qOk (abK A) (t + 1) q') (hL : ∀ a ∈ AL', a = abQ A ∨ a ∈ abL A ∨ qOk (abK A) (t + 1) a) (hV : ∀ Q : Int → Mm → Prop, (∀ m' r, CR m' (abK A) (abB A) q' AL' r → 0 ≤ r → FcS m m' → m' 17 10 ≤ m 17 10 + 400 → Q F m') → V m Q) (hM : ∀ (m1 : Mm) (Q : Int → Mm → Prop), MW m1 A → (∀ m', MR m' q' AL' → FmS m1 m' → Q F m') → M m1 Q) : ∃ A', AOk A' (t + 1) ∧ Bth X A' t V M m := ⟨setQ A q' AL' (abI A), hI.2.2.st ht hp hq hL, bth_of (F := F) hI (fun Q h => hV Q (fun m' r g1 g2 g3 g4 => h m' (hI.1.st g3 g1 g2 (by have := hI.1.2.2.2.2.2.1; omega)) g3.hi)) (fun m1 Q h1 h => hM m1 Q h1 (fun m' g1 g2 => h m' (h1.st g2 g1) g2.lo))⟩
/-! lean -/
theorem up17 {k v : Int} : FcS m (up m 17 k v) := ⟨by rw [up_ne (Or.inl (by decide))], by rw [up_ne (Or.inl (by decide))], by rw [up_ne (Or.inl (by decide))], fun a ha => up_off (by omega)⟩
theorem up101 {k v : Int} : FmS m (up m 101 k v) := ⟨fun j _ _ => by rw [up_ne (Or.inl (by decide))], (Fr.rf _ _).up (by simp)⟩
theorem InvA.n (h : InvA X m A t) : 0 ≤ kNm (abK A) ∧ kNm (abK A) ≤ 6 := h.2.2.2.2.1
theorem MW.n (h : MW m A) : m 83 28 = kNm (abK A) := by rw [← h.2.1]; rfl
theorem MW.nb (h : MW m A) : m 83 27 = kNb (abK A) := by rw [← h.2.1]; rfl
theorem MW.q (h : MW m A) : m 101 = abQ A := h.2.2.2.2.1.1
theorem CW.S (h : CW X m A t) : Sr (abK A) (abB A |> wtB) (m 17) (abQ A) := h.2.2.2.1.1
theorem op_lean (hB : Bsh X.2.2.1) (hI : InvA X m A t) (ht : t + 1 ≤ 1000) {x y : Int} (hx : R3 x) (hy : R3 y) : ∃ A', AOk A' (t + 1) ∧ Bth X A' t (V_lean X (d + 20) x y) (M_lean X (d + 20) x y) m := by
  have hn := hI.n
  obtain ⟨c, c2, b1, b2, b3, b4, b5, b6, b7, b8⟩ := hI.1.2.1
  have h4 := b7.2.1
  have hS := hI.1.S
  have hqr : ∀ x, 0 ≤ x → x < kNm (abK A) → 0 ≤ abQ A x ∧ abQ A x ≤ 2 := fun x h1 h2 => ((hI.2.2.2.2.2.2.1 (by omega)).2.2.1.1.1 x h1 h2).1
  have clV : ∀ Q : Int → Mm → Prop, ((x < 0 ∨ kNm (abK A) ≤ x) → Q (-1) (up m 82 0 (m 82 0 + 1))) → (0 ≤ x → x < kNm (abK A) → (y < 0 ∨ 2 < y) → Q (-1) (up m 82 1 (m 82 1 + 1))) → (0 ≤ x → x < kNm (abK A) → 0 ≤ y → y ≤ 2 → abQ A x = y → Q (-1) (up m 82 2 (m 82 2 + 1))) → (0 ≤ x → x < kNm (abK A) → 0 ≤ y → y ≤ 2 → abQ A x ≠ y → ∀ m' r, CR m' (abK A) (abB A) (lnBy (abQ A) x y) (kpL (abL A) (abQ A)) r → 0 ≤ r → FcS m m' → m' 17 10 ≤ m 17 10 + 400 → Q (abQ A x) m') → V_lean X (d + 20) x y m Q := by
    intro Q r0 r1 r2 ac
    refine V_leanw hB (V_isMember_c hB b1 b4 (by omega) hx (fun z1 z2 => q1n ⟨hy, fun z => V_refuse_c hB (by omega) (r1 z1 (by omega) (Or.inl z)), fun z3 => ⟨fun z4 => T_leanOf_c hB (by decide) ?_, fun z => V_refuse_c hB (by omega) (r1 z1 (by omega) (Or.inr z))⟩⟩) (fun z => q0n (V_refuse_c hB (by omega) (r0 (by omega)))))
    have e1 := (hS.1 x z1 (by omega)).2.1
    have hq := hqr x z1 (by omega)
    rw [e1]
    refine ⟨by omega, fun z5 => H_keepAct_c hB hI.1.2.2.2.1 (by decide) (fun m1 g1 g2 g3 => T_with_c ?_), fun z5 => V_refuse_c hB (by omega) (r2 z1 (by omega) z3 z4 z5)⟩
    refine ac z1 (by omega) z3 z4 z5 _ 20 (g1.q ?_ (by rw [up_ne (Or.inr (by decide))]) (fun j hj => by unfold lnBy; rw [if_neg (by omega)]) (fun a ha => up_off ha)) (by decide) (g2.tr up17) (by rw [up_ne (Or.inr (by decide)), g3]; omega)
    refine g1.1.lean hn.2 (fun k h1 h2 => ?_) (fun j h1 _ _ => up_ne (Or.inr h1)) (fun j hj => by unfold lnBy; rw [if_neg (by omega)])
    rw [up_same, nibI (by omega) (by omega) (by omega), (g1.1.1 k h1 h2).2.1]
    rfl
  have clM : ∀ (m1 : Mm) (Q : Int → Mm → Prop), MW m1 A → ((x < 0 ∨ kNm (abK A) ≤ x) → Q (-1) (up m1 102 0 (m1 102 0 + 1))) → (0 ≤ x → x < kNm (abK A) → (y < 0 ∨ 2 < y) → Q (-1) (up m1 102 1 (m1 102 1 + 1))) → (0 ≤ x → x < kNm (abK A) → 0 ≤ y → y ≤ 2 → abQ A x = y → Q (-1) (up m1 102 2 (m1 102 2 + 1))) → (0 ≤ x → x < kNm (abK A) → 0 ≤ y → y ≤ 2 → abQ A x ≠ y → ∀ m', MR m' (lnBy (abQ A) x y) (kpL (abL A) (abQ A)) → FmS m1 m' → Q (abQ A x) m') → M_lean X (d + 20) x y m1 Q := by
    intro m1 Q hM r0 r1 r2 ac
    have e28 := hM.n
    have e101 := hM.q
    refine M_leanw hB (M_isMember_c hB (by omega) hx (fun z1 z2 => q1n (M_in_c hy (by decide) (by decide) (fun z3 z4 => q1n ?_) (fun z => q0n (M_isRefused_c hB (by decide) (fun e => absurd e (by decide)) (fun _ => q1e (r1 z1 (by omega) z)))))) (fun z => q0n (M_isRefused_c hB (by decide) (fun e => absurd e (by decide)) (fun _ => q1e (r0 (by omega))))))
    have hq := hqr x z1 (by omega)
    rw [e101]
    refine ⟨by omega, by omega, hy, fun z5 => M_isRefused_c hB (by decide) (fun _ => q0e (M_keep_c hB hM.2.2.2.2.1 (fun m2 g1 g2 => ?_))) (fun e => absurd rfl e), fun z5 => M_isRefused_c hB (by decide) (fun e => absurd e (by decide)) (fun _ => q1e (r2 z1 (by omega) z3 z4 z5))⟩
    rw [g1.1]
    refine ac z1 (by omega) z3 z4 z5 _ ⟨?_, by rw [up_ne (Or.inl (by decide))]; exact g1.2.1, g1.2.2.1, fun i hi j h1 h2 => by rw [up_ne (Or.inl (by decide))]; exact g1.2.2.2 i hi j h1 h2⟩ (g2.tr up101)
    funext j
    rw [up_at, g1.1]
    rfl
  by_cases c0 : x < 0 ∨ kNm (abK A) ≤ x
  · exact bth_rf hI ht (i := 0) (by decide) (fun Q h => clV Q (fun _ => h) (fun _ _ _ => by omega) (fun _ _ _ _ _ => by omega) (fun _ _ _ _ _ => by omega)) (fun m1 Q h1 h => clM m1 Q h1 (fun _ => h) (fun _ _ _ => by omega) (fun _ _ _ _ _ => by omega) (fun _ _ _ _ _ => by omega))
  by_cases c1 : y < 0 ∨ 2 < y
  · exact bth_rf hI ht (i := 1) (by decide) (fun Q h => clV Q (fun _ => by omega) (fun _ _ _ => h) (fun _ _ _ _ _ => by omega) (fun _ _ _ _ _ => by omega)) (fun m1 Q h1 h => clM m1 Q h1 (fun _ => by omega) (fun _ _ _ => h) (fun _ _ _ _ _ => by omega) (fun _ _ _ _ _ => by omega))
  by_cases c2' : abQ A x = y
  · exact bth_rf hI ht (i := 2) (by decide) (fun Q h => clV Q (fun _ => by omega) (fun _ _ _ => by omega) (fun _ _ _ _ _ => h) (fun _ _ _ _ z => absurd c2' z)) (fun m1 Q h1 h => clM m1 Q h1 (fun _ => by omega) (fun _ _ _ => by omega) (fun _ _ _ _ _ => h) (fun _ _ _ _ z => absurd c2' z))
  have hqo := (hI.2.2.2.2.2.2.1 (by omega)).2.2.1
  refine bth_act hI ht (by omega) (q' := lnBy (abQ A) x y) (AL' := kpL (abL A) (abQ A)) (F := abQ A x) ⟨hqo.1.lean hn.2 (fun k h1 h2 => ?_) (fun j hj => by unfold lnBy; rw [if_neg (by omega)]), ?_, ?_⟩ (fun a ha => (kp_mem ha).elim Or.inl (fun e => Or.inr (Or.inl e))) (fun Q h => clV Q (fun _ => by omega) (fun _ _ _ => by omega) (fun _ _ _ _ z => absurd z c2') (fun _ _ _ _ _ => h)) (fun m1 Q h1 h => clM m1 Q h1 (fun _ => by omega) (fun _ _ _ => by omega) (fun _ _ _ _ z => absurd z c2') (fun _ _ _ _ _ => h))
  · have := hqr k h1 h2
    unfold lnBy
    split
    · omega
    · exact this
  · unfold lnBy
    rw [if_neg (by omega)]
    exact hqo.2.1
  · unfold lnBy
    rw [if_neg (by omega)]
    have := hqo.2.2
    omega
end Acts
