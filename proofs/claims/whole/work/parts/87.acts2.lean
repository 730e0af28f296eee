/-! ===== heel, strew, change, walk, undo ===== -/
theorem sl1 {x : Int} (h : 0 ≤ x ∧ x < 6) : 0 ≤ iSl 1 x ∧ iSl 1 x < 64 := by
  obtain ⟨a, rfl⟩ : ∃ a : Nat, x = (a : Int) := ⟨x.toNat, by omega⟩
  exact (by decide +kernel : ∀ a : Nat, a < 6 → 0 ≤ iSl 1 (a : Int) ∧ iSl 1 (a : Int) < 64) a (by omega)
def swQ (q : Int → Int) (x : Int) : Int → Int := fun j => if j = 20 then q 20 - 1 else if j = 19 then iO (q 19) (iSl 1 x) else q j
def chQ (q : Int → Int) (x y : Int) : Int → Int := fun j => if j = y + 12 then q (x + 12) else if j = x + 12 then q (y + 12) else q j
def wkQ (K : Kn) (q : Int → Int) : Int → Int := fun j => if j = 23 then q 23 + 1 else if j = 18 then 0 else if j = 22 then kR K 1 else if j = 21 then 0 else q j
def unQ (q a : Int → Int) : Int → Int := fun j => if 0 ≤ j ∧ j < 205 then a j else q j
theorem Sr.seat {K : Kn} {wt f f' q q' : Int → Int} (h : Sr K wt f q) (hn : kNm K ≤ 6) (e1 : ∀ k, 0 ≤ k → k < kNm K → nib (f' 3) k = q' (12 + k)) (e : ∀ j, j ≠ 3 → 0 ≤ j → j ≤ 9 → f' j = f j) (eq : ∀ j, (j < 12 ∨ 12 + kNm K ≤ j) → q' j = q j) : Sr K wt f' q' := by
  unfold Sr at *
  obtain ⟨a1, a2, a3, a4, a5, a6, a7⟩ := h
  refine ⟨fun i h1 h2 => ?_, ?_, ?_, ?_, ?_, ?_, ?_⟩
  · obtain ⟨b1, b2, b3, b4⟩ := a1 i h1 h2
    refine ⟨?_, ?_, ?_, e1 i h1 h2⟩
    · rw [e 0 (by decide) (by decide) (by decide)]; exact b1
    · rw [e 1 (by decide) (by decide) (by decide), eq _ (by omega)]; exact b2
    · rw [e 2 (by decide) (by decide) (by decide), eq _ (by omega)]; exact b3
  · rw [e 4 (by decide) (by decide) (by decide), eq _ (by omega)]; exact a2
  · rw [e 5 (by decide) (by decide) (by decide), eq _ (by omega)]; exact a3
  · rw [e 6 (by decide) (by decide) (by decide), eq _ (by omega)]; exact a4
  · rw [e 7 (by decide) (by decide) (by decide), eq _ (by omega)]; exact a5
  · rw [e 8 (by decide) (by decide) (by decide), eq _ (by omega)]; exact a6
  · rw [e 9 (by decide) (by decide) (by decide), eq _ (by omega)]; exact a7
theorem Qok.seat {K : Kn} {q q' : Int → Int} (h : Qok K q) (hn : kNm K ≤ 6) (e1 : ∀ k, 0 ≤ k → k < kNm K → 0 ≤ q' (12 + k) ∧ q' (12 + k) < kNm K) (eq : ∀ j, (j < 12 ∨ 12 + kNm K ≤ j) → q' j = q j) : Qok K q' := by
  unfold Qok at *
  obtain ⟨a1, a2, a3, a4, a5, a6⟩ := h
  refine ⟨fun i h1 h2 => ?_, ?_, ?_, ?_, ?_, ?_⟩
  · obtain ⟨b1, b2, b3⟩ := a1 i h1 h2
    rw [eq i (by omega), eq (6 + i) (by omega)]
    exact ⟨b1, b2, e1 i h1 h2⟩
  · rw [eq _ (by omega)]; exact a2
  · rw [eq _ (by omega)]; exact a3
  · rw [eq _ (by omega)]; exact a4
  · rw [eq _ (by omega)]; exact a5
  · rw [eq _ (by omega)]; exact a6
section Acts2
variable {X : Cx} {d : Nat} {m m' : Mm} {A : Ab} {t : Int} {Q : Int → Mm → Prop} {Q0 : Mm → Prop} {q' : Int → Int} {AL' : List (Int → Int)} {r : Int}
theorem T_swapSeats_c (hB : Bsh X.2.2.1) {s : Nat} (hs : sO s) {x y : Int} (h : ∀ m', m' s 3 = wth (wth (m s 3) x (nib (m s 3) y)) y (nib (m s 3) x) → (∀ k, k ≠ 3 → m' s k = m s k) → Fr [s] m m' → Q0 m') : T_swapSeats X (d + 1) s x y m Q0 := by
  obtain ⟨m', ⟨h1, h2, h3⟩, hr⟩ := c_swapSeats X.1 X.2.1 d X.2.2.2 (m := m) (sSh hB hs) (x := x) (y := y)
  exact ⟨m', h m' h1 h2 h3, hr⟩
theorem InvA.q (hI : InvA X m A t) (hp : 0 < kNm (abK A)) : qOk (abK A) t (abQ A) := (hI.2.2.2.2.2.2.1 hp).2.2.1
theorem InvA.k (hI : InvA X m A t) (hp : 0 < kNm (abK A)) : Kok (abK A) := (hI.2.2.2.2.2.2.1 hp).1
theorem op_heel (hB : Bsh X.2.2.1) (hI : InvA X m A t) (ht : t + 1 ≤ 1000) {x : Int} (hx : R3 x) : ∃ A', AOk A' (t + 1) ∧ Bth X A' t (V_heel X (d + 20) x) (M_heel X (d + 20) x) m := by
  have hn := hI.n
  obtain ⟨c, c2, b1, b2, b3, b4, b5, b6, b7, b8⟩ := hI.1.2.1
  have h4 := b7.2.1
  have hS := hI.1.S
  have hqr : ∀ x, 0 ≤ x → x < kNm (abK A) → 0 ≤ abQ A (6 + x) ∧ abQ A (6 + x) ≤ 9 := fun x h1 h2 => ((hI.q (by omega)).1.1 x h1 h2).2.1
  have clV : ∀ Q : Int → Mm → Prop, ((x < 0 ∨ kNm (abK A) ≤ x) → Q (-1) (up m 82 0 (m 82 0 + 1))) → (0 ≤ x → x < kNm (abK A) → abQ A (6 + x) = 9 → Q (-1) (up m 82 2 (m 82 2 + 1))) → (0 ≤ x → x < kNm (abK A) → abQ A (6 + x) ≠ 9 → ∀ m' r, CR m' (abK A) (abB A) (hlBy (abQ A) x (abQ A (6 + x) + 1)) (kpL (abL A) (abQ A)) r → 0 ≤ r → FcS m m' → m' 17 10 ≤ m 17 10 + 400 → Q (abQ A (6 + x) + 1) m') → V_heel X (d + 20) x m Q := by
    intro Q r0 r2 ac
    refine V_heelw hB (V_isMember_c hB b1 b4 (by omega) hx (fun z1 z2 => q1n (T_heelsOf_c hB (by decide) ?_)) (fun z => q0n (V_refuse_c hB (by omega) (r0 (by omega)))))
    have e1 := (hS.1 x z1 (by omega)).2.2.1
    have hq := hqr x z1 (by omega)
    rw [e1]
    refine ⟨by omega, fun z5 => H_keepAct_c hB hI.1.2.2.2.1 (by decide) (fun m1 g1 g2 g3 => T_with_c ?_), fun z5 => V_refuse_c hB (by omega) (r2 z1 (by omega) (by omega))⟩
    refine ac z1 (by omega) (by omega) _ 20 (g1.q ?_ (by rw [up_ne (Or.inr (by decide))]) (fun j hj => by unfold hlBy; rw [if_neg (by omega)]) (fun a ha => up_off ha)) (by decide) (g2.tr up17) (by rw [up_ne (Or.inr (by decide)), g3]; omega)
    exact g1.1.heel hn.2 (by omega) (by omega) (up_same _ _ _ _) (fun j hj => up_ne (Or.inr hj))
  have clM : ∀ (m1 : Mm) (Q : Int → Mm → Prop), MW m1 A → ((x < 0 ∨ kNm (abK A) ≤ x) → Q (-1) (up m1 102 0 (m1 102 0 + 1))) → (0 ≤ x → x < kNm (abK A) → abQ A (6 + x) = 9 → Q (-1) (up m1 102 2 (m1 102 2 + 1))) → (0 ≤ x → x < kNm (abK A) → abQ A (6 + x) ≠ 9 → ∀ m', MR m' (hlBy (abQ A) x (abQ A (6 + x) + 1)) (kpL (abL A) (abQ A)) → FmS m1 m' → Q (abQ A (6 + x) + 1) m') → M_heel X (d + 20) x m1 Q := by
    intro m1 Q hM r0 r2 ac
    have e28 := hM.n
    have e101 := hM.q
    have e6 : x + 6 = 6 + x := by omega
    refine M_heelw hB (M_isMember_c hB (by omega) hx (fun z1 z2 => q1n ?_) (fun z => q0n (M_isRefused_c hB (by decide) (fun e => absurd e (by decide)) (fun _ => q1e (r0 (by omega))))))
    have hq := hqr x z1 (by omega)
    rw [e101, e6]
    refine ⟨by omega, by omega, fun z5 => M_isRefused_c hB (by decide) (fun _ => q0e (M_keep_c hB hM.2.2.2.2.1 (fun m2 g1 g2 => ?_))) (fun e => absurd rfl e), fun z5 => M_isRefused_c hB (by decide) (fun e => absurd e (by decide)) (fun _ => q1e (r2 z1 (by omega) z5))⟩
    rw [g1.1]
    refine ac z1 (by omega) z5 _ ⟨?_, by rw [up_ne (Or.inl (by decide))]; exact g1.2.1, g1.2.2.1, fun i hi j h1 h2 => by rw [up_ne (Or.inl (by decide))]; exact g1.2.2.2 i hi j h1 h2⟩ (g2.tr up101)
    funext j
    rw [up_at, g1.1]
    rfl
  by_cases c0 : x < 0 ∨ kNm (abK A) ≤ x
  · exact bth_rf hI ht (i := 0) (by decide) (fun Q h => clV Q (fun _ => h) (fun _ _ _ => by omega) (fun _ _ _ => by omega)) (fun m1 Q h1 h => clM m1 Q h1 (fun _ => h) (fun _ _ _ => by omega) (fun _ _ _ => by omega))
  by_cases c1 : abQ A (6 + x) = 9
  · exact bth_rf hI ht (i := 2) (by decide) (fun Q h => clV Q (fun _ => by omega) (fun _ _ _ => h) (fun _ _ z => absurd c1 z)) (fun m1 Q h1 h => clM m1 Q h1 (fun _ => by omega) (fun _ _ _ => h) (fun _ _ z => absurd c1 z))
  have hqo := hI.q (by omega)
  have hq := hqr x (by omega) (by omega)
  refine bth_act hI ht (by omega) (q' := hlBy (abQ A) x (abQ A (6 + x) + 1)) (AL' := kpL (abL A) (abQ A)) (F := abQ A (6 + x) + 1) ⟨hqo.1.heel hn.2 (by omega) (by omega), ?_, ?_⟩ (fun a ha => (kp_mem ha).elim Or.inl (fun e => Or.inr (Or.inl e))) (fun Q h => clV Q (fun _ => by omega) (fun _ _ z => absurd z c1) (fun _ _ _ => h)) (fun m1 Q h1 h => clM m1 Q h1 (fun _ => by omega) (fun _ _ z => absurd z c1) (fun _ _ _ => h))
  · unfold hlBy
    rw [if_neg (by omega)]
    exact hqo.2.1
  · unfold hlBy
    rw [if_neg (by omega)]
    have := hqo.2.2
    omega
theorem InvA.nb (hI : InvA X m A t) : (0 ≤ kNb (abK A) ∧ kNb (abK A) ≤ 6) ∧ (kNm (abK A) = 0 → kNb (abK A) = 0) := by
  have hn := hI.n
  obtain ⟨-, -, a2, a3, a4, -⟩ := hI.2.2
  by_cases z : kNm (abK A) = 0
  · have := (a3 z).2.2.1
    exact ⟨by omega, fun _ => this⟩
  · exact ⟨(a4 (by omega)).1.2.1, fun e => absurd e z⟩
theorem op_strew (hB : Bsh X.2.2.1) (hI : InvA X m A t) (ht : t + 1 ≤ 1000) {x : Int} (hx : R3 x) : ∃ A', AOk A' (t + 1) ∧ Bth X A' t (V_strew X (d + 20) x) (M_strew X (d + 20) x) m := by
  have hn := hI.n
  have hnb := hI.nb
  obtain ⟨c, c2, b1, b2, b3, b4, b5, b6, b7, b8⟩ := hI.1.2.1
  have h3 := b7.1
  have hS := hI.1.S
  have e5 : m 17 5 = abQ A 19 := hS.2.2.1
  have e6 : m 17 6 = abQ A 20 := hS.2.2.2.1
  have hq20 : 0 ≤ x → x < kNb (abK A) → 0 ≤ abQ A 20 ∧ abQ A 20 ≤ 9 := fun h1 h2 => (hI.q (by omega)).1.2.2.2.1
  have clV : ∀ Q : Int → Mm → Prop, ((x < 0 ∨ kNb (abK A) ≤ x) → Q (-1) (up m 82 0 (m 82 0 + 1))) → (0 ≤ x → x < kNb (abK A) → bit (abQ A 19) x = 1 → Q (-1) (up m 82 2 (m 82 2 + 1))) → (0 ≤ x → x < kNb (abK A) → bit (abQ A 19) x ≠ 1 → abQ A 20 = 0 → Q (-1) (up m 82 3 (m 82 3 + 1))) → (0 ≤ x → x < kNb (abK A) → bit (abQ A 19) x ≠ 1 → abQ A 20 ≠ 0 → ∀ m' r, CR m' (abK A) (abB A) (swQ (abQ A) x) (kpL (abL A) (abQ A)) r → 0 ≤ r → FcS m m' → m' 17 10 ≤ m 17 10 + 400 → Q (abQ A 20 - 1) m') → V_strew X (d + 20) x m Q := by
    intro Q r0 r2 r3 ac
    refine V_streww hB (V_isBump_c hB b1 b4 (by omega) hx (fun z1 z2 => q1n ?_) (fun z => q0n (V_refuse_c hB (by omega) (r0 (by omega)))))
    have hq := hq20 z1 (by omega)
    rw [e5, e6]
    refine ⟨fun z3 => ⟨by omega, fun z4 => H_keepAct_c hB hI.1.2.2.2.1 (by decide) (fun m1 g1 g2 g3 => ?_), fun z4 => V_refuse_c hB (by omega) (r3 z1 (by omega) z3 (by omega))⟩, fun z3 => V_refuse_c hB (by omega) (r2 z1 (by omega) z3)⟩
    rw [g3, e5, e6]
    refine ac z1 (by omega) z3 (by omega) _ 20 (g1.q ?_ (by rw [up_ne (Or.inr (by decide)), up_ne (Or.inr (by decide))]) (fun j hj => by unfold swQ; rw [if_neg (by omega), if_neg (by omega)]) (fun a ha => by rw [up_off ha, up_off ha])) (by decide) ((g2.tr up17).tr up17) (by rw [up_ne (Or.inr (by decide)), up_ne (Or.inr (by decide)), g3]; omega)
    have hS1 := g1.1
    unfold Sr at hS1 ⊢
    unfold swQ
    obtain ⟨a1, a2, a3, a4, a5, a6, a7⟩ := hS1
    refine ⟨fun i h1 h2 => ?_, ?_, ?_, ?_, ?_, ?_, ?_⟩
    · rw [if_neg (by omega), if_neg (by omega), if_neg (c := 6 + i = 20) (by omega), if_neg (c := 6 + i = 19) (by omega), if_neg (c := 12 + i = 20) (by omega), if_neg (c := 12 + i = 19) (by omega), up_ne (Or.inr (by decide)), up_ne (Or.inr (by decide)), up_ne (Or.inr (by decide)), up_ne (Or.inr (by decide)), up_ne (Or.inr (by decide)), up_ne (Or.inr (by decide)), up_ne (Or.inr (by decide)), up_ne (Or.inr (by decide))]
      exact a1 i h1 h2
    · rw [up_ne (Or.inr (by decide)), up_ne (Or.inr (by decide)), if_neg (by decide), if_neg (by decide)]; exact a2
    · rw [up_ne (Or.inr (by decide)), up_same, if_neg (by decide), if_pos rfl]
    · rw [up_same, if_pos rfl]
    · rw [up_ne (Or.inr (by decide)), up_ne (Or.inr (by decide)), if_neg (by decide), if_neg (by decide)]; exact a5
    · rw [up_ne (Or.inr (by decide)), up_ne (Or.inr (by decide)), if_neg (by decide), if_neg (by decide)]; exact a6
    · rw [up_ne (Or.inr (by decide)), up_ne (Or.inr (by decide)), if_neg (by decide), if_neg (by decide)]; exact a7
  have clM : ∀ (m1 : Mm) (Q : Int → Mm → Prop), MW m1 A → ((x < 0 ∨ kNb (abK A) ≤ x) → Q (-1) (up m1 102 0 (m1 102 0 + 1))) → (0 ≤ x → x < kNb (abK A) → bit (abQ A 19) x = 1 → Q (-1) (up m1 102 2 (m1 102 2 + 1))) → (0 ≤ x → x < kNb (abK A) → bit (abQ A 19) x ≠ 1 → abQ A 20 = 0 → Q (-1) (up m1 102 3 (m1 102 3 + 1))) → (0 ≤ x → x < kNb (abK A) → bit (abQ A 19) x ≠ 1 → abQ A 20 ≠ 0 → ∀ m', MR m' (swQ (abQ A) x) (kpL (abL A) (abQ A)) → FmS m1 m' → Q (abQ A 20 - 1) m') → M_strew X (d + 20) x m1 Q := by
    intro m1 Q hM r0 r2 r3 ac
    have e27 := hM.nb
    have e101 := hM.q
    refine M_streww hB (M_isBump_c hB (by omega) hx (fun z1 z2 => q1n ?_) (fun z => q0n (M_isRefused_c hB (by decide) (fun e => absurd e (by decide)) (fun _ => q1e (r0 (by omega))))))
    have hq := hq20 z1 (by omega)
    refine M_has_c (fun z3 => q0e ?_) (fun z3 => q1e ?_)
    · rw [e101] at z3 ⊢
      refine ⟨by omega, fun z4 => M_isRefused_c hB (by decide) (fun _ => q0e (M_keep_c hB hM.2.2.2.2.1 (fun m2 g1 g2 => ?_))) (fun e => absurd rfl e), fun z4 => M_isRefused_c hB (by decide) (fun e => absurd e (by decide)) (fun _ => q1e (r3 z1 (by omega) (by omega) z4))⟩
      rw [g1.1]
      refine ac z1 (by omega) (by omega) z4 _ ⟨?_, by rw [up_ne (Or.inl (by decide)), up_ne (Or.inl (by decide))]; exact g1.2.1, g1.2.2.1, fun i hi j h1 h2 => by rw [up_ne (Or.inl (by decide)), up_ne (Or.inl (by decide))]; exact g1.2.2.2 i hi j h1 h2⟩ ((g2.tr up101).tr up101)
      funext j
      rw [up_at, up_at, g1.1]
      rfl
    · rw [e101] at z3
      exact M_isRefused_c hB (by decide) (fun e => absurd e (by decide)) (fun _ => q1e (r2 z1 (by omega) z3))
  by_cases c0 : x < 0 ∨ kNb (abK A) ≤ x
  · exact bth_rf hI ht (i := 0) (by decide) (fun Q h => clV Q (fun _ => h) (fun _ _ _ => by omega) (fun _ _ _ _ => by omega) (fun _ _ _ _ => by omega)) (fun m1 Q h1 h => clM m1 Q h1 (fun _ => h) (fun _ _ _ => by omega) (fun _ _ _ _ => by omega) (fun _ _ _ _ => by omega))
  by_cases c1 : bit (abQ A 19) x = 1
  · exact bth_rf hI ht (i := 2) (by decide) (fun Q h => clV Q (fun _ => by omega) (fun _ _ _ => h) (fun _ _ z _ => absurd c1 z) (fun _ _ z _ => absurd c1 z)) (fun m1 Q h1 h => clM m1 Q h1 (fun _ => by omega) (fun _ _ _ => h) (fun _ _ z _ => absurd c1 z) (fun _ _ z _ => absurd c1 z))
  by_cases c3 : abQ A 20 = 0
  · exact bth_rf hI ht (i := 3) (by decide) (fun Q h => clV Q (fun _ => by omega) (fun _ _ z => absurd z c1) (fun _ _ _ _ => h) (fun _ _ _ z => absurd c3 z)) (fun m1 Q h1 h => clM m1 Q h1 (fun _ => by omega) (fun _ _ z => absurd z c1) (fun _ _ _ _ => h) (fun _ _ _ z => absurd c3 z))
  have hqo := hI.q (by omega)
  have hq := hq20 (by omega) (by omega)
  have hor := or64 hqo.1.2.2.1 (sl1 (x := x) (by omega))
  refine bth_act hI ht (by omega) (q' := swQ (abQ A) x) (AL' := kpL (abL A) (abQ A)) (F := abQ A 20 - 1) ⟨?_, ?_, ?_⟩ (fun a ha => (kp_mem ha).elim Or.inl (fun e => Or.inr (Or.inl e))) (fun Q h => clV Q (fun _ => by omega) (fun _ _ z => absurd z c1) (fun _ _ _ z => absurd z c3) (fun _ _ _ _ => h)) (fun m1 Q h1 h => clM m1 Q h1 (fun _ => by omega) (fun _ _ z => absurd z c1) (fun _ _ _ z => absurd z c3) (fun _ _ _ _ => h))
  · have h0 := hqo.1
    unfold Qok at h0 ⊢
    unfold swQ
    obtain ⟨a1, a2, a3, a4, a5, a6⟩ := h0
    refine ⟨fun i h1 h2 => ?_, ?_, ?_, ?_, ?_, ?_⟩
    · rw [if_neg (by omega), if_neg (by omega), if_neg (c := 6 + i = 20) (by omega), if_neg (c := 6 + i = 19) (by omega), if_neg (c := 12 + i = 20) (by omega), if_neg (c := 12 + i = 19) (by omega)]
      exact a1 i h1 h2
    · rw [if_neg (by decide), if_neg (by decide)]; exact a2
    · rw [if_neg (by decide), if_pos rfl]; exact hor
    · rw [if_pos rfl]; omega
    · rw [if_neg (by decide), if_neg (by decide)]; exact a5
    · rw [if_neg (by decide), if_neg (by decide)]; exact a6
  · unfold swQ
    rw [if_neg (by decide), if_neg (by decide)]
    exact hqo.2.1
  · unfold swQ
    rw [if_neg (by decide), if_neg (by decide)]
    have := hqo.2.2
    omega
theorem op_change (hB : Bsh X.2.2.1) (hI : InvA X m A t) (ht : t + 1 ≤ 1000) {x y : Int} (hx : R3 x) (hy : R3 y) : ∃ A', AOk A' (t + 1) ∧ Bth X A' t (V_change X (d + 20) x y) (M_change X (d + 20) x y) m := by
  have hn := hI.n
  obtain ⟨c, c2, b1, b2, b3, b4, b5, b6, b7, b8⟩ := hI.1.2.1
  have h4 := b7.2.1
  have hS := hI.1.S
  have clV : ∀ Q : Int → Mm → Prop, ((x < 0 ∨ kNm (abK A) ≤ x ∨ y < 0 ∨ kNm (abK A) ≤ y) → Q (-1) (up m 82 0 (m 82 0 + 1))) → (0 ≤ x → x < kNm (abK A) → x = y → Q (-1) (up m 82 2 (m 82 2 + 1))) → (0 ≤ x → x < kNm (abK A) → 0 ≤ y → y < kNm (abK A) → x ≠ y → ∀ m' r, CR m' (abK A) (abB A) (chQ (abQ A) x y) (kpL (abL A) (abQ A)) r → 0 ≤ r → FcS m m' → m' 17 10 ≤ m 17 10 + 400 → Q (abQ A (y + 12)) m') → V_change X (d + 20) x y m Q := by
    intro Q r0 r2 ac
    refine V_changew hB (V_isMember_c hB b1 b4 (by omega) hx (fun z1 z2 => q1e (V_isMember_c hB b1 b4 (by omega) hy (fun z3 z4 => q1n ⟨hx, hy, fun z5 => H_keepAct_c hB hI.1.2.2.2.1 (by decide) (fun m1 g1 g2 g3 => T_swapSeats_c hB (by decide) (fun m2 k1 k2 k3 => T_seatOf_c hB (by decide) ?_)), fun z5 => V_refuse_c hB (by omega) (r2 z1 (by omega) z5)⟩) (fun z => q0n (V_refuse_c hB (by omega) (r0 (by omega)))))) (fun z => q0e (V_refuse_c hB (by omega) (r0 (by omega)))))
    have s1 := (hI.q (by omega)).1.1 x z1 (by omega)
    have s2 := (hI.q (by omega)).1.1 y z3 (by omega)
    have e1 := (g1.1.1 x z1 (by omega)).2.2.2
    have e2 := (g1.1.1 y z3 (by omega)).2.2.2
    have ex : x + 12 = 12 + x := by omega
    have ey : y + 12 = 12 + y := by omega
    rw [e1, e2] at k1
    have key : ∀ k, 0 ≤ k → k < kNm (abK A) → nib (m2 17 3) k = chQ (abQ A) x y (12 + k) := by
      intro k h1 h2
      rw [k1, nibI (by omega) (by omega) (by omega), nibI (by omega) (by omega) (by omega), (g1.1.1 k h1 h2).2.2.2]
      unfold chQ
      rw [ex, ey]
      by_cases z6 : k = y
      · rw [if_pos z6, if_pos (by omega)]
      · by_cases z7 : k = x
        · rw [if_neg z6, if_pos z7, if_neg (c := 12 + k = 12 + y) (by omega), if_pos (by omega)]
        · rw [if_neg z6, if_neg z7, if_neg (c := 12 + k = 12 + y) (by omega), if_neg (by omega)]
    have ea : nib (m2 17 3) x = abQ A (y + 12) := by
      rw [key x z1 (by omega)]
      unfold chQ
      rw [if_neg (by omega), if_pos (by omega)]
    rw [ea]
    refine ac z1 (by omega) z3 (by omega) z5 m2 20 (g1.q ?_ (k2 10 (by decide)) (fun j hj => by unfold chQ; rw [if_neg (by omega), if_neg (by omega)]) (fun a ha => k3 a (by simp; exact ha))) (by decide) (g2.tr ⟨by rw [k3 18 (by decide)], by rw [k3 18 (by decide)], by rw [k3 21 (by decide)], fun a ha => k3 a (by simp; omega)⟩) (by rw [k2 10 (by decide), g3]; omega)
    exact g1.1.seat hn.2 key (fun j h1 _ _ => k2 j h1) (fun j hj => by unfold chQ; rw [if_neg (by omega), if_neg (by omega)])
  have clM : ∀ (m1 : Mm) (Q : Int → Mm → Prop), MW m1 A → ((x < 0 ∨ kNm (abK A) ≤ x ∨ y < 0 ∨ kNm (abK A) ≤ y) → Q (-1) (up m1 102 0 (m1 102 0 + 1))) → (0 ≤ x → x < kNm (abK A) → x = y → Q (-1) (up m1 102 2 (m1 102 2 + 1))) → (0 ≤ x → x < kNm (abK A) → 0 ≤ y → y < kNm (abK A) → x ≠ y → ∀ m', MR m' (chQ (abQ A) x y) (kpL (abL A) (abQ A)) → FmS m1 m' → Q (abQ A (y + 12)) m') → M_change X (d + 20) x y m1 Q := by
    intro m1 Q hM r0 r2 ac
    have e28 := hM.n
    refine M_changew hB (M_isMember_c hB (by omega) hx (fun z1 z2 => q1e (M_isMember_c hB (by omega) hy (fun z3 z4 => q1n ⟨hx, hy, fun z5 => M_isRefused_c hB (by decide) (fun _ => q0e (M_keep_c hB hM.2.2.2.2.1 (fun m2 g1 g2 => M_changeNoww hB ⟨by omega, by omega, by omega, ?_⟩))) (fun e => absurd rfl e), fun z5 => M_isRefused_c hB (by decide) (fun e => absurd e (by decide)) (fun _ => q1e (r2 z1 (by omega) z5))⟩) (fun z => q0n (M_isRefused_c hB (by decide) (fun e => absurd e (by decide)) (fun _ => q1e (r0 (by omega))))))) (fun z => q0e (M_isRefused_c hB (by decide) (fun e => absurd e (by decide)) (fun _ => q1e (r0 (by omega))))))
    rw [g1.1, up_ne (Or.inr (by omega)), up_same]
    refine ac z1 (by omega) z3 (by omega) z5 _ ⟨?_, by rw [up_ne (Or.inl (by decide)), up_ne (Or.inl (by decide))]; exact g1.2.1, g1.2.2.1, fun i hi j h1 h2 => by rw [up_ne (Or.inl (by decide)), up_ne (Or.inl (by decide))]; exact g1.2.2.2 i hi j h1 h2⟩ ((g2.tr up101).tr up101)
    funext j
    rw [up_at, up_at, g1.1]
    rfl
  by_cases c0 : x < 0 ∨ kNm (abK A) ≤ x ∨ y < 0 ∨ kNm (abK A) ≤ y
  · exact bth_rf hI ht (i := 0) (by decide) (fun Q h => clV Q (fun _ => h) (fun _ _ _ => by omega) (fun _ _ _ _ _ => by omega)) (fun m1 Q h1 h => clM m1 Q h1 (fun _ => h) (fun _ _ _ => by omega) (fun _ _ _ _ _ => by omega))
  by_cases c1 : x = y
  · exact bth_rf hI ht (i := 2) (by decide) (fun Q h => clV Q (fun _ => by omega) (fun _ _ _ => h) (fun _ _ _ _ z => absurd c1 z)) (fun m1 Q h1 h => clM m1 Q h1 (fun _ => by omega) (fun _ _ _ => h) (fun _ _ _ _ z => absurd c1 z))
  have hqo := hI.q (by omega)
  have s1 := hqo.1.1 x (by omega) (by omega)
  have s2 := hqo.1.1 y (by omega) (by omega)
  have ex : x + 12 = 12 + x := by omega
  have ey : y + 12 = 12 + y := by omega
  refine bth_act hI ht (by omega) (q' := chQ (abQ A) x y) (AL' := kpL (abL A) (abQ A)) (F := abQ A (y + 12)) ⟨hqo.1.seat hn.2 (fun k h1 h2 => ?_) (fun j hj => by unfold chQ; rw [if_neg (by omega), if_neg (by omega)]), ?_, ?_⟩ (fun a ha => (kp_mem ha).elim Or.inl (fun e => Or.inr (Or.inl e))) (fun Q h => clV Q (fun _ => by omega) (fun _ _ z => absurd z c1) (fun _ _ _ _ _ => h)) (fun m1 Q h1 h => clM m1 Q h1 (fun _ => by omega) (fun _ _ z => absurd z c1) (fun _ _ _ _ _ => h))
  · have s3 := hqo.1.1 k h1 h2
    unfold chQ
    rw [ex, ey]
    split
    · exact s1.2.2
    · split
      · exact s2.2.2
      · exact s3.2.2
  · unfold chQ
    rw [if_neg (by omega), if_neg (by omega)]
    exact hqo.2.1
  · unfold chQ
    rw [if_neg (by omega), if_neg (by omega)]
    have := hqo.2.2
    omega
end Acts2
