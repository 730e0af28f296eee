/-! ===== runs up to a place ===== -/
def goN (g : aPg) (E : aRn) (d mi mL : Nat) (ini : Bool) : Nat → aS → Option aS
  | 0, x => some x
  | k + 1, x => match pC g mi x.1 with
    | none => none
    | some (i, len) => match st1 g E d mi mL ini i len x with
      | none => none
      | some y => goN g E d mi mL ini k y
def Go (g : aPg) (d mi mL : Nat) (ini : Bool) (tgt x : aS) : Prop := ∃ f k, goN g (ex g f) d mi mL ini k x = some tgt
theorem goN_mono {g : aPg} {E E' : aRn} {d mi mL : Nat} {ini : Bool} (hE : eLe E E') : ∀ (k : Nat) (x y : aS), goN g E d mi mL ini k x = some y → goN g E' d mi mL ini k x = some y := by
  intro k
  induction k with
  | zero => exact fun x y h => h
  | succ k ih =>
    intro x y h
    unfold goN at h ⊢
    split at h
    · cases h
    next i len hpc =>
      (try rw [hpc])
      (try dsimp only)
      split at h
      · cases h
      next z hz =>
        rw [st1_mono hE hz]
        exact ih z y h
theorem Go_clo {g : aPg} {d mi mL : Nat} {ini : Bool} {tgt : aS} : Clo g d mi mL ini (Go g d mi mL ini tgt) := by
  intro x y i len f hpc hst ⟨f', k, hk⟩
  refine ⟨max f f', k + 1, ?_⟩
  unfold goN
  rw [hpc]
  dsimp only
  rw [st1_mono (ex_le g (Nat.le_max_left f f')) hst]
  exact goN_mono (ex_le g (Nat.le_max_right f f')) k y tgt hk
theorem Go_refl {g : aPg} {d mi mL : Nat} {ini : Bool} {x : aS} : Go g d mi mL ini x x := ⟨0, 0, rfl⟩
theorem goN_len {g : aPg} {E : aRn} {d mi mL : Nat} {ini : Bool} (hE : gMono E) : ∀ (k : Nat) (x y : aS), goN g E d mi mL ini k x = some y → x.2.2.2.1.length ≤ y.2.2.2.1.length ∧ x.2.2.2.2 ≤ y.2.2.2.2 := by
  intro k
  induction k with
  | zero => intro x y h; cases h; exact ⟨Nat.le_refl _, Nat.le_refl _⟩
  | succ k ih =>
    intro x y h
    unfold goN at h
    split at h
    · cases h
    · split at h
      · cases h
      next z hz =>
        have h1 := st1_len hE hz
        have h2 := ih z y h
        exact ⟨Nat.le_trans h1.1 h2.1, Nat.le_trans h1.2.1 h2.2⟩
section aGoW
variable {g : aPg} {Ts : List Cond} {st : aXt} {D : va_G} {tc : FieldType → ClassId} {ad : Nat → Nat} {N0 : Nat} {l : Launch}
theorem goW {f : Nat} (hg : pgOk g Ts st) (had : ∀ i, i < aK → ad i = N0 + i) {d mi : Nat} {q : aMI} (hq : pI g mi = some q)
    {p : Program} {e : Env} {R : Room} {s : State} {m : MethodId} {args : Array Value} {below : List Frame} {meth : Method} {c : Code} {c0 n0 : Nat} {Q : State → Prop}
    (hx : p.tables.exec = Jvm.exec) (hb : c.code = q.2.1) (hml : c.maxLocals = q.2.2.1) (hts : ∀ u ∈ Ts, u.before args s = true) (hown : s.vm.findClass q.1.cls = some m.cls) (hini : q.2.2.2.2.2.2 = true → meth.name = "<init>") (hK : va_K D (pK g) (aTys tc (pO g)) s) (hX : eX (fun z => N0 ≤ z) ad st (pE g) (pS g) (pO g) s s.heap)
    (hfr : d ≤ R.frames) (hlo : d * 100 ≤ R.locals) {y : aS} (hRc : y.2.2.2.1.length ≤ R.cells + c0) (hRs : y.2.2.2.2 ≤ R.slots + n0)
    (go : ∀ (H1 : Heap) (locs1 : List Loc) (cells1 slots1 : Nat) (ls1 : Array Slot), cells1 + c0 = y.2.2.2.1.length → slots1 + n0 = y.2.2.2.2 → H1.size = N0 + y.2.2.2.1.length → wP D (pK g) tc ad y.2.2.2.1 H1 → va_S (fun z => N0 ≤ z) s.heap H1 locs1 → aHas ad ls1 y.2.1 → W p l e R s m args below meth c H1 locs1 cells1 slots1 Q (F0 m y.1 ls1 (y.2.2.1.map (cV ad)))) :
    ∀ (k : Nat) (x : aS), goN g (ex g f) d mi q.2.2.1 q.2.2.2.2.2.2 k x = some y → x.2.2.2.1.length ≤ 600000 → ∀ (H : Heap) (locs : List Loc) (cells slots : Nat) (ls : Array Slot), cells + c0 = x.2.2.2.1.length → slots + n0 = x.2.2.2.2 → H.size = N0 + x.2.2.2.1.length → wP D (pK g) tc ad x.2.2.2.1 H → va_S (fun z => N0 ≤ z) s.heap H locs → aHas ad ls x.2.1 → W p l e R s m args below meth c H locs cells slots Q (F0 m x.1 ls (x.2.2.1.map (cV ad))) := by
  intro k
  induction k with
  | zero => intro x h hlen H locs cells slots ls z1 z2 z3 z4 z5 z6; cases h; exact go H locs cells slots ls z1 z2 z3 z4 z5 z6
  | succ k ih =>
    intro x h hlen H locs cells slots ls z1 z2 z3 z4 z5 z6
    unfold goN at h
    split at h
    · cases h
    next i len hpc =>
      split at h
      · cases h
      next z hz =>
        have h1 := st1_len (ex_mono g f) hz
        have h2 := goN_len (ex_mono g f) k z y h
        exact st1W hg had (exW hg had f) hq hpc hz hlen hx hb hml hts hown hini hK hX hfr hlo z1 z2 (Nat.le_trans h2.1 hRc) (Nat.le_trans h2.2 hRs) z3 z4 z5 z6 (fun H1 locs1 cells1 slots1 ls1 y1 y2 y3 y4 y5 y6 => ih z h (h1.2.2.1 hlen) H1 locs1 cells1 slots1 ls1 y1 y2 y3 y4 y5 y6)
end aGoW
