/-! ===== the world as both constructors leave it ===== -/
section Init5
set_option maxRecDepth 100000
variable {xs : List Int32} {fv : Value} {d n : Nat}
/-- the class's cells -/
def wV : aW := [iniO 11 [.ref 1, .ref 3, .ref 6, .ref 8, .int 0, vI (-1), .ref 9, .ref 13, .ref 17, .ref 18, .ref 21, .ref 66, .ref 73, .ref 82, .int 0, .long 0], iniO 9 [.ref 2, .int 0], iniC 240, iniO 1 [.ref 1, .ref 4, .ref 5, .int 0], iniI 5, iniI 4, iniO 5 [.ref 1, .ref 7, .int 0, .int 0], iniI 241, iniR "SledgeVote$Law" 4, iniO 0 [.ref 10, .ref 11, .ref 12, .int 0, .int 0, .int 0, .int 0], iniI 5, iniI 24, iniI 24, iniO 0 [.ref 14, .ref 15, .ref 16, .int 0, .int 0, .int 0, .int 0], iniI 5, iniI 24, iniI 24, iniO 8 [.int 0, .int 0, .int 0, .int 0, .int 0, .int 0, .int 0, .int 0, .int 0, .int 0, .int 0], iniO 7 [.ref 9, .null, .int 0, .int 0, .int 0, .ref 19, .ref 20], iniI 6, iniI 40, iniO 3 [.int 0, .int 0, .ref 22, .ref 23, .int 0, .ref 24, .ref 25], iniI 1024, iniS 26, iniO 8 [.int 0, .int 0, .int 0, .int 0, .int 0, .int 0, .int 0, .int 0, .int 0, .int 0, .int 0], iniI 60, iniO 8 [.int 0, .int 0, .int 0, .int 0, .int 0, .int 0, .int 0, .int 0, .int 0, .int 0, .int 0], iniO 8 [.int 0, .int 0, .int 0, .int 0, .int 0, .int 0, .int 0, .int 0, .int 0, .int 0, .int 0], iniO 8 [.int 0, .int 0, .int 0, .int 0, .int 0, .int 0, .int 0, .int 0, .int 0, .int 0, .int 0], iniO 8 [.int 0, .int 0, .int 0, .int 0, .int 0, .int 0, .int 0, .int 0, .int 0, .int 0, .int 0], iniO 8 [.int 0, .int 0, .int 0, .int 0, .int 0, .int 0, .int 0, .int 0, .int 0, .int 0, .int 0], iniO 8 [.int 0, .int 0, .int 0, .int 0, .int 0, .int 0, .int 0, .int 0, .int 0, .int 0, .int 0], iniO 8 [.int 0, .int 0, .int 0, .int 0, .int 0, .int 0, .int 0, .int 0, .int 0, .int 0, .int 0], iniO 8 [.int 0, .int 0, .int 0, .int 0, .int 0, .int 0, .int 0, .int 0, .int 0, .int 0, .int 0], iniO 8 [.int 0, .int 0, .int 0, .int 0, .int 0, .int 0, .int 0, .int 0, .int 0, .int 0, .int 0], iniO 8 [.int 0, .int 0, .int 0, .int 0, .int 0, .int 0, .int 0, .int 0, .int 0, .int 0, .int 0], iniO 8 [.int 0, .int 0, .int 0, .int 0, .int 0, .int 0, .int 0, .int 0, .int 0, .int 0, .int 0], iniO 8 [.int 0, .int 0, .int 0, .int 0, .int 0, .int 0, .int 0, .int 0, .int 0, .int 0, .int 0], iniO 8 [.int 0, .int 0, .int 0, .int 0, .int 0, .int 0, .int 0, .int 0, .int 0, .int 0, .int 0], iniO 8 [.int 0, .int 0, .int 0, .int 0, .int 0, .int 0, .int 0, .int 0, .int 0, .int 0, .int 0], iniO 8 [.int 0, .int 0, .int 0, .int 0, .int 0, .int 0, .int 0, .int 0, .int 0, .int 0, .int 0], iniO 8 [.int 0, .int 0, .int 0, .int 0, .int 0, .int 0, .int 0, .int 0, .int 0, .int 0, .int 0], iniO 8 [.int 0, .int 0, .int 0, .int 0, .int 0, .int 0, .int 0, .int 0, .int 0, .int 0, .int 0], iniO 8 [.int 0, .int 0, .int 0, .int 0, .int 0, .int 0, .int 0, .int 0, .int 0, .int 0, .int 0], iniO 8 [.int 0, .int 0, .int 0, .int 0, .int 0, .int 0, .int 0, .int 0, .int 0, .int 0, .int 0], iniO 8 [.int 0, .int 0, .int 0, .int 0, .int 0, .int 0, .int 0, .int 0, .int 0, .int 0, .int 0], iniO 8 [.int 0, .int 0, .int 0, .int 0, .int 0, .int 0, .int 0, .int 0, .int 0, .int 0, .int 0], iniO 8 [.int 0, .int 0, .int 0, .int 0, .int 0, .int 0, .int 0, .int 0, .int 0, .int 0, .int 0], iniO 8 [.int 0, .int 0, .int 0, .int 0, .int 0, .int 0, .int 0, .int 0, .int 0, .int 0, .int 0], iniO 8 [.int 0, .int 0, .int 0, .int 0, .int 0, .int 0, .int 0, .int 0, .int 0, .int 0, .int 0], iniO 8 [.int 0, .int 0, .int 0, .int 0, .int 0, .int 0, .int 0, .int 0, .int 0, .int 0, .int 0], iniO 8 [.int 0, .int 0, .int 0, .int 0, .int 0, .int 0, .int 0, .int 0, .int 0, .int 0, .int 0], iniO 8 [.int 0, .int 0, .int 0, .int 0, .int 0, .int 0, .int 0, .int 0, .int 0, .int 0, .int 0], iniO 8 [.int 0, .int 0, .int 0, .int 0, .int 0, .int 0, .int 0, .int 0, .int 0, .int 0, .int 0], iniO 8 [.int 0, .int 0, .int 0, .int 0, .int 0, .int 0, .int 0, .int 0, .int 0, .int 0, .int 0], iniO 8 [.int 0, .int 0, .int 0, .int 0, .int 0, .int 0, .int 0, .int 0, .int 0, .int 0, .int 0], iniO 8 [.int 0, .int 0, .int 0, .int 0, .int 0, .int 0, .int 0, .int 0, .int 0, .int 0, .int 0], iniO 8 [.int 0, .int 0, .int 0, .int 0, .int 0, .int 0, .int 0, .int 0, .int 0, .int 0, .int 0], iniO 8 [.int 0, .int 0, .int 0, .int 0, .int 0, .int 0, .int 0, .int 0, .int 0, .int 0, .int 0], iniO 8 [.int 0, .int 0, .int 0, .int 0, .int 0, .int 0, .int 0, .int 0, .int 0, .int 0, .int 0], iniO 8 [.int 0, .int 0, .int 0, .int 0, .int 0, .int 0, .int 0, .int 0, .int 0, .int 0, .int 0], iniO 8 [.int 0, .int 0, .int 0, .int 0, .int 0, .int 0, .int 0, .int 0, .int 0, .int 0, .int 0], iniO 8 [.int 0, .int 0, .int 0, .int 0, .int 0, .int 0, .int 0, .int 0, .int 0, .int 0, .int 0], iniO 8 [.int 0, .int 0, .int 0, .int 0, .int 0, .int 0, .int 0, .int 0, .int 0, .int 0, .int 0], iniO 8 [.int 0, .int 0, .int 0, .int 0, .int 0, .int 0, .int 0, .int 0, .int 0, .int 0, .int 0], iniO 8 [.int 0, .int 0, .int 0, .int 0, .int 0, .int 0, .int 0, .int 0, .int 0, .int 0, .int 0], iniO 6 [.ref 67, .int 0, .int 0, .ref 18, .ref 69, .ref 70, .ref 71, .ref 72], iniO 2 [.ref 68, .int 0], iniI 64, iniO 8 [.int 0, .int 0, .int 0, .int 0, .int 0, .int 0, .int 0, .int 0, .int 0, .int 0, .int 0], iniI 6, iniI 64, iniI 18, iniO 10 [.int 0, .ref 74, .ref 18, .ref 76, .ref 77, .ref 78, .ref 79, .ref 80, .ref 81], iniO 2 [.ref 75, .int 0], iniI 7, iniO 8 [.int 0, .int 0, .int 0, .int 0, .int 0, .int 0, .int 0, .int 0, .int 0, .int 0, .int 0], iniI 10, iniI 10, iniZ 10, iniI 21, iniI 189, iniI 5]
/-- the reference's -/
def wM : aW := [iniO 12 [.int 0, .ref 84, .int 0, .int 0, .int 0, .int 0, .ref 85, .ref 86, .ref 87, .ref 88, .ref 89, .ref 90, .ref 91, .int 0, .int 0, .ref 92, .ref 93, .ref 94, .ref 95, .ref 96, .ref 97, .int 0, .int 0, .int 0, .ref 98, .ref 99, .ref 100, .int 0, .int 0, .int 0, .ref 101, .ref 102, vI (-1), .int 0, .int 0, .ref 103, .int 0, .long 0, .ref 104, .int 0, .int 0, .int 0, .int 0, .ref 105, .ref 106, .ref 107, .ref 108, .ref 109, .int 0, .ref 110, .ref 111, .ref 112, .int 0], iniI 240, iniI 2600, iniI 2600, iniI 5, iniI 5, iniI 700, iniI 700, iniI 700, iniI 6, iniI 80, iniI 5, iniI 24, iniI 4, iniI 24, iniI 5, iniI 24, iniI 24, iniI 205, iniI 5, iniI 8200, iniI 24, iniI 6, iniI 6, iniI 10, iniI 10, iniZ 10, iniI 210, iniI 6, iniI 205]
def wdF (m : Mm) : Nat → List Sh → aW
  | _, [] => []
  | k, s :: t => mkC s (m k) :: wdF m (k + 1) t
theorem wdF_eq (m : Mm) : ∀ (sh : List Sh) (k i : Nat), (wdF m k sh)[i]? = (sh[i]?).map (fun s => mkC s (m (k + i))) := by
  intro sh
  induction sh with
  | nil => intro k i; rfl
  | cons s t ih =>
    intro k i
    cases i with
    | zero => rfl
    | succ i =>
      show (wdF m (k + 1) t)[i]? = (t[i]?).map (fun s => mkC s (m (k + (i + 1))))
      rw [ih (k + 1) i, show k + 1 + i = k + (i + 1) by omega]
theorem Wd_F (sh : List Sh) (m : Mm) : wdF m 0 sh = Wd sh m := by
  apply List.ext_getElem?
  intro b
  rw [wdF_eq]
  unfold Wd
  rw [List.getElem?_mapIdx, Nat.zero_add]
theorem wdF_c {c : Option aC} {t : aW} {s : Sh} {sh : List Sh} {m : Mm} {k : Nat} (h : c = mkC s (m k)) (ht : t = wdF m (k + 1) sh) : c :: t = wdF m k (s :: sh) := by
  rw [h, ht]
  rfl
theorem m0_z {a : Nat} (h : ¬ (a = 0 ∨ a = 8 ∨ a = 18 ∨ a = 23 ∨ a = 83)) : ∀ j, m0 a j = 0 := by
  intro j
  unfold m0
  rw [if_neg (by omega), if_neg (by omega), if_neg (by omega), if_neg (by omega), if_neg (by omega), if_neg (by omega), if_neg (by omega), if_neg (by omega)]
theorem ini_i {len : Nat} {f : Int → Int} (h : ∀ j, f j = 0) : iniI len = mkC (.inr (.inl (0, len))) f := by
  show _ = (some (.inl (.int, .inl (aInts len f))) : Option aC)
  rw [aInts_z (fun j _ => h j)]
theorem ini_c {len : Nat} {f : Int → Int} (h : ∀ j, f j = 0) : iniC len = mkC (.inr (.inl (2, len))) f := by
  show _ = (some (.inl (.char, .inl (aInts len f))) : Option aC)
  rw [aInts_z (fun j _ => h j)]
theorem ini_b {len : Nat} {f : Int → Int} (h : ∀ j, f j = 0) : iniZ len = mkC (.inr (.inl (1, len))) f := by
  show _ = (some (.inl (.boolean, .inl (aInts len f))) : Option aC)
  rw [aInts_z (fun j _ => h j)]
theorem ini_l {len : Nat} {f : Int → Int} (h : ∀ j, f j = 0) : iniJ len = mkC (.inr (.inl (3, len))) f := by
  show _ = (some (.inl (.long, .inr (.inl (aLongs len f)))) : Option aC)
  rw [aLongs_z (fun j _ => h j)]
theorem ini_t {f : Int → Int} (h : ∀ j, f j = 0) : iniT = mkC stS f := by
  have e : f = fun _ => 0 := funext h
  rw [e]
  rfl
theorem ini_8 : iniR "SledgeVote$Law" 4 = mkC (.inr (.inl (4, 4))) (m0 8) := by
  show _ = (some (.inl (.object "SledgeVote$Law", .inr (.inr (aRefs 4 (m0 8))))) : Option aC)
  rw [aRefs_z (fun j _ => by show (-1 : Int) < 0; decide)]
theorem ini_23 : iniS 26 = mkC (.inr (.inl (5, 40))) (m0 23) := by
  have e : m0 23 = fun k => 26 + k := by
    funext j
    unfold m0
    rw [if_neg (by omega), if_neg (by omega), if_neg (by omega), if_neg (by omega), if_neg (by omega), if_neg (by omega), if_pos rfl]
  rw [e]
  rfl
theorem w0_eq : [] ++ ((wV ++ wM) ++ [iniJ 1]) = Wd bs m0 := by
  rw [← Wd_F]
  refine wdF_c (k := 0) (rfl) ?_
  refine wdF_c (k := 1) (rfl) ?_
  refine wdF_c (k := 2) (ini_c (m0_z (a := 2) (by decide))) ?_
  refine wdF_c (k := 3) (rfl) ?_
  refine wdF_c (k := 4) (ini_i (m0_z (a := 4) (by decide))) ?_
  refine wdF_c (k := 5) (ini_i (m0_z (a := 5) (by decide))) ?_
  refine wdF_c (k := 6) (rfl) ?_
  refine wdF_c (k := 7) (ini_i (m0_z (a := 7) (by decide))) ?_
  refine wdF_c (k := 8) (ini_8) ?_
  refine wdF_c (k := 9) (rfl) ?_
  refine wdF_c (k := 10) (ini_i (m0_z (a := 10) (by decide))) ?_
  refine wdF_c (k := 11) (ini_i (m0_z (a := 11) (by decide))) ?_
  refine wdF_c (k := 12) (ini_i (m0_z (a := 12) (by decide))) ?_
  refine wdF_c (k := 13) (rfl) ?_
  refine wdF_c (k := 14) (ini_i (m0_z (a := 14) (by decide))) ?_
  refine wdF_c (k := 15) (ini_i (m0_z (a := 15) (by decide))) ?_
  refine wdF_c (k := 16) (ini_i (m0_z (a := 16) (by decide))) ?_
  refine wdF_c (k := 17) (ini_t (m0_z (a := 17) (by decide))) ?_
  refine wdF_c (k := 18) (rfl) ?_
  refine wdF_c (k := 19) (ini_i (m0_z (a := 19) (by decide))) ?_
  refine wdF_c (k := 20) (ini_i (m0_z (a := 20) (by decide))) ?_
  refine wdF_c (k := 21) (rfl) ?_
  refine wdF_c (k := 22) (ini_i (m0_z (a := 22) (by decide))) ?_
  refine wdF_c (k := 23) (ini_23) ?_
  refine wdF_c (k := 24) (ini_t (m0_z (a := 24) (by decide))) ?_
  refine wdF_c (k := 25) (ini_i (m0_z (a := 25) (by decide))) ?_
  refine wdF_c (k := 26) (ini_t (m0_z (a := 26) (by decide))) ?_
  refine wdF_c (k := 27) (ini_t (m0_z (a := 27) (by decide))) ?_
  refine wdF_c (k := 28) (ini_t (m0_z (a := 28) (by decide))) ?_
  refine wdF_c (k := 29) (ini_t (m0_z (a := 29) (by decide))) ?_
  refine wdF_c (k := 30) (ini_t (m0_z (a := 30) (by decide))) ?_
  refine wdF_c (k := 31) (ini_t (m0_z (a := 31) (by decide))) ?_
  refine wdF_c (k := 32) (ini_t (m0_z (a := 32) (by decide))) ?_
  refine wdF_c (k := 33) (ini_t (m0_z (a := 33) (by decide))) ?_
  refine wdF_c (k := 34) (ini_t (m0_z (a := 34) (by decide))) ?_
  refine wdF_c (k := 35) (ini_t (m0_z (a := 35) (by decide))) ?_
  refine wdF_c (k := 36) (ini_t (m0_z (a := 36) (by decide))) ?_
  refine wdF_c (k := 37) (ini_t (m0_z (a := 37) (by decide))) ?_
  refine wdF_c (k := 38) (ini_t (m0_z (a := 38) (by decide))) ?_
  refine wdF_c (k := 39) (ini_t (m0_z (a := 39) (by decide))) ?_
  refine wdF_c (k := 40) (ini_t (m0_z (a := 40) (by decide))) ?_
  refine wdF_c (k := 41) (ini_t (m0_z (a := 41) (by decide))) ?_
  refine wdF_c (k := 42) (ini_t (m0_z (a := 42) (by decide))) ?_
  refine wdF_c (k := 43) (ini_t (m0_z (a := 43) (by decide))) ?_
  refine wdF_c (k := 44) (ini_t (m0_z (a := 44) (by decide))) ?_
  refine wdF_c (k := 45) (ini_t (m0_z (a := 45) (by decide))) ?_
  refine wdF_c (k := 46) (ini_t (m0_z (a := 46) (by decide))) ?_
  refine wdF_c (k := 47) (ini_t (m0_z (a := 47) (by decide))) ?_
  refine wdF_c (k := 48) (ini_t (m0_z (a := 48) (by decide))) ?_
  refine wdF_c (k := 49) (ini_t (m0_z (a := 49) (by decide))) ?_
  refine wdF_c (k := 50) (ini_t (m0_z (a := 50) (by decide))) ?_
  refine wdF_c (k := 51) (ini_t (m0_z (a := 51) (by decide))) ?_
  refine wdF_c (k := 52) (ini_t (m0_z (a := 52) (by decide))) ?_
  refine wdF_c (k := 53) (ini_t (m0_z (a := 53) (by decide))) ?_
  refine wdF_c (k := 54) (ini_t (m0_z (a := 54) (by decide))) ?_
  refine wdF_c (k := 55) (ini_t (m0_z (a := 55) (by decide))) ?_
  refine wdF_c (k := 56) (ini_t (m0_z (a := 56) (by decide))) ?_
  refine wdF_c (k := 57) (ini_t (m0_z (a := 57) (by decide))) ?_
  refine wdF_c (k := 58) (ini_t (m0_z (a := 58) (by decide))) ?_
  refine wdF_c (k := 59) (ini_t (m0_z (a := 59) (by decide))) ?_
  refine wdF_c (k := 60) (ini_t (m0_z (a := 60) (by decide))) ?_
  refine wdF_c (k := 61) (ini_t (m0_z (a := 61) (by decide))) ?_
  refine wdF_c (k := 62) (ini_t (m0_z (a := 62) (by decide))) ?_
  refine wdF_c (k := 63) (ini_t (m0_z (a := 63) (by decide))) ?_
  refine wdF_c (k := 64) (ini_t (m0_z (a := 64) (by decide))) ?_
  refine wdF_c (k := 65) (ini_t (m0_z (a := 65) (by decide))) ?_
  refine wdF_c (k := 66) (rfl) ?_
  refine wdF_c (k := 67) (rfl) ?_
  refine wdF_c (k := 68) (ini_i (m0_z (a := 68) (by decide))) ?_
  refine wdF_c (k := 69) (ini_t (m0_z (a := 69) (by decide))) ?_
  refine wdF_c (k := 70) (ini_i (m0_z (a := 70) (by decide))) ?_
  refine wdF_c (k := 71) (ini_i (m0_z (a := 71) (by decide))) ?_
  refine wdF_c (k := 72) (ini_i (m0_z (a := 72) (by decide))) ?_
  refine wdF_c (k := 73) (rfl) ?_
  refine wdF_c (k := 74) (rfl) ?_
  refine wdF_c (k := 75) (ini_i (m0_z (a := 75) (by decide))) ?_
  refine wdF_c (k := 76) (ini_t (m0_z (a := 76) (by decide))) ?_
  refine wdF_c (k := 77) (ini_i (m0_z (a := 77) (by decide))) ?_
  refine wdF_c (k := 78) (ini_i (m0_z (a := 78) (by decide))) ?_
  refine wdF_c (k := 79) (ini_b (m0_z (a := 79) (by decide))) ?_
  refine wdF_c (k := 80) (ini_i (m0_z (a := 80) (by decide))) ?_
  refine wdF_c (k := 81) (ini_i (m0_z (a := 81) (by decide))) ?_
  refine wdF_c (k := 82) (ini_i (m0_z (a := 82) (by decide))) ?_
  refine wdF_c (k := 83) (rfl) ?_
  refine wdF_c (k := 84) (ini_i (m0_z (a := 84) (by decide))) ?_
  refine wdF_c (k := 85) (ini_i (m0_z (a := 85) (by decide))) ?_
  refine wdF_c (k := 86) (ini_i (m0_z (a := 86) (by decide))) ?_
  refine wdF_c (k := 87) (ini_i (m0_z (a := 87) (by decide))) ?_
  refine wdF_c (k := 88) (ini_i (m0_z (a := 88) (by decide))) ?_
  refine wdF_c (k := 89) (ini_i (m0_z (a := 89) (by decide))) ?_
  refine wdF_c (k := 90) (ini_i (m0_z (a := 90) (by decide))) ?_
  refine wdF_c (k := 91) (ini_i (m0_z (a := 91) (by decide))) ?_
  refine wdF_c (k := 92) (ini_i (m0_z (a := 92) (by decide))) ?_
  refine wdF_c (k := 93) (ini_i (m0_z (a := 93) (by decide))) ?_
  refine wdF_c (k := 94) (ini_i (m0_z (a := 94) (by decide))) ?_
  refine wdF_c (k := 95) (ini_i (m0_z (a := 95) (by decide))) ?_
  refine wdF_c (k := 96) (ini_i (m0_z (a := 96) (by decide))) ?_
  refine wdF_c (k := 97) (ini_i (m0_z (a := 97) (by decide))) ?_
  refine wdF_c (k := 98) (ini_i (m0_z (a := 98) (by decide))) ?_
  refine wdF_c (k := 99) (ini_i (m0_z (a := 99) (by decide))) ?_
  refine wdF_c (k := 100) (ini_i (m0_z (a := 100) (by decide))) ?_
  refine wdF_c (k := 101) (ini_i (m0_z (a := 101) (by decide))) ?_
  refine wdF_c (k := 102) (ini_i (m0_z (a := 102) (by decide))) ?_
  refine wdF_c (k := 103) (ini_i (m0_z (a := 103) (by decide))) ?_
  refine wdF_c (k := 104) (ini_i (m0_z (a := 104) (by decide))) ?_
  refine wdF_c (k := 105) (ini_i (m0_z (a := 105) (by decide))) ?_
  refine wdF_c (k := 106) (ini_i (m0_z (a := 106) (by decide))) ?_
  refine wdF_c (k := 107) (ini_i (m0_z (a := 107) (by decide))) ?_
  refine wdF_c (k := 108) (ini_i (m0_z (a := 108) (by decide))) ?_
  refine wdF_c (k := 109) (ini_b (m0_z (a := 109) (by decide))) ?_
  refine wdF_c (k := 110) (ini_i (m0_z (a := 110) (by decide))) ?_
  refine wdF_c (k := 111) (ini_i (m0_z (a := 111) (by decide))) ?_
  refine wdF_c (k := 112) (ini_i (m0_z (a := 112) (by decide))) ?_
  refine wdF_c (k := 113) (ini_l (m0_z (a := 113) (by decide))) ?_
  rfl
theorem law_start {V : aS → Prop} (hV : Clo (gP xs fv) 800 0 7 false V) (k : V (23, [some (.ref aK), some (.ref 0), some (.ref 83), some (.ref 113), some (vI 0), none, none], [], Wd bs m0, 19430)) : V (0, aEnt 7 [.ref aK], [], [], 0) := by
  rw [← w0_eq] at k
  show V (0, [some (.ref aK), none, none, none, none, none, none], [], [] ++ [], 0)
  refine k_new hV (pre := []) (t := []) (N := 0) (fl := 16) (a := 0) (n' := 16) (t' := [iniO 11 [.null, .null, .null, .null, .int 0, .int 0, .null, .null, .null, .null, .null, .null, .null, .null, .int 0, .long 0]]) rfl rfl rfl rfl rfl (by decide) rfl rfl (by decide) rfl (pc' := 3) rfl ?_
  refine r_dup hV rfl rfl (pc' := 4) rfl ?_
  refine k_calli hV (pre := []) (n' := 2733) (t' := wV) [] wV rfl rfl (by decide) rfl rfl rfl (Nat.le_of_ble_eq_true rfl) (Nat.le_of_ble_eq_true rfl) rfl rfl (V_init (xs := xs) (fv := fv) (d := 796) (n := 16) (n' := 2733) (pre := [] ++ []) (N := 0) rfl (by decide) rfl (by decide)) rfl (pc' := 7) rfl ?_
  refine r_astore_n hV rfl (Nat.le_of_ble_eq_true rfl) rfl (pc' := 8) rfl ?_
  refine k_new hV (pre := []) (N := 0) (fl := 53) (a := 83) (n' := 2786) (t' := wV ++ [iniO 12 [.int 0, .null, .int 0, .int 0, .int 0, .int 0, .null, .null, .null, .null, .null, .null, .null, .int 0, .int 0, .null, .null, .null, .null, .null, .null, .int 0, .int 0, .int 0, .null, .null, .null, .int 0, .int 0, .int 0, .null, .null, .int 0, .int 0, .int 0, .null, .int 0, .long 0, .null, .int 0, .int 0, .int 0, .int 0, .null, .null, .null, .null, .null, .int 0, .null, .null, .null, .int 0]]) rfl rfl rfl rfl rfl (by decide) rfl rfl (by decide) rfl (pc' := 11) rfl ?_
  refine r_dup hV rfl rfl (pc' := 12) rfl ?_
  refine k_calli hV (pre := []) (n' := 19429) (t' := wV ++ wM) wV wM rfl rfl (by decide) rfl rfl rfl (Nat.le_of_ble_eq_true rfl) (Nat.le_of_ble_eq_true rfl) rfl rfl (M_init (xs := xs) (fv := fv) (d := 798) (n := 2786) (n' := 19429) (pre := [] ++ wV) (N := 83) rfl (by decide) rfl (by decide)) rfl (pc' := 15) rfl ?_
  refine r_astore_n hV rfl (Nat.le_of_ble_eq_true rfl) rfl (pc' := 16) rfl ?_
  refine tt_iconst hV rfl (pc' := 17) rfl ?_
  refine k_newj hV (pre := []) (N := 0) (len := 1) (a := 113) (n' := 19430) (t' := (wV ++ wM) ++ [iniJ 1]) rfl rfl (by decide) rfl rfl (by decide) rfl (by decide) rfl (pc' := 19) rfl ?_
  refine r_astore_n hV rfl (Nat.le_of_ble_eq_true rfl) rfl (pc' := 20) rfl ?_
  refine tt_iconst hV rfl (pc' := 21) rfl ?_
  refine r_istore hV rfl (Nat.le_of_ble_eq_true rfl) rfl (pc' := 23) rfl ?_
  exact k
end Init5
