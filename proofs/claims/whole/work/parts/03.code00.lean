/-! ===== the code of the methods, instruction by instruction (printed by program) ===== -/
def cFi : List (Nat × Instr × Nat) → Nat → Option (Instr × Nat)
  | [], _ => none
  | e :: t, pc => if e.1 = pc then some e.2 else cFi t pc
/-- the code by chunks, each with the first place behind it -/
def cLk : List (Nat × List (Nat × Instr × Nat)) → Nat → Option (Instr × Nat)
  | [], _ => none
  | c :: t, pc => if pc < c.1 then cFi c.2 pc else cLk t pc
theorem cFi_in : ∀ (l : List (Nat × Instr × Nat)) (pc : Nat) (r : Instr × Nat), cFi l pc = some r → (pc, r) ∈ l
  | [], _, _, h => by cases h
  | e :: t, pc, r, h => by
    unfold cFi at h
    split at h
    next q => cases h; rw [← q]; exact List.mem_cons_self
    next => exact List.mem_cons_of_mem _ (cFi_in t pc r h)
def cOk (cc : ByteArray) (l : List (Nat × List (Nat × Instr × Nat))) : Prop := ∀ c ∈ l, ∀ e ∈ c.2, decode cc e.1 = .ok e.2
theorem cOk_n {cc : ByteArray} : cOk cc [] := fun _ h => absurd h List.not_mem_nil
theorem cOk_c {cc : ByteArray} {h : Nat} {c : List (Nat × Instr × Nat)} {l : List (Nat × List (Nat × Instr × Nat))} (h1 : ∀ e ∈ c, decode cc e.1 = .ok e.2) (h2 : cOk cc l) : cOk cc ((h, c) :: l) := by
  intro x hx
  rcases List.mem_cons.mp hx with rfl | hx
  · exact h1
  · exact h2 x hx
theorem cLk_ok : ∀ (l : List (Nat × List (Nat × Instr × Nat))) (cc : ByteArray) (pc : Nat) (i : Instr) (len : Nat), cOk cc l → cLk l pc = some (i, len) → decode cc pc = .ok (i, len)
  | [], _, _, _, _, _, h => by cases h
  | c :: t, cc, pc, i, len, ho, h => by
    unfold cLk at h
    split at h
    · exact ho c List.mem_cons_self (pc, i, len) (cFi_in _ _ _ h)
    · exact cLk_ok t cc pc i len (fun x hx => ho x (List.mem_cons_of_mem _ hx)) h
