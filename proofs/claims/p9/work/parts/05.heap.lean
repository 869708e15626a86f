/-! ===== branches, fields, arrays, makings ===== -/
section XH
variable {sg : Nat → Option xM} {M : xM} {F r : xK} {pc pc' : Nat}
/-- branches: to a place of the code, or on -/
def xBr (cnd : List Value → Option (Bool × List Value)) (t : Nat) : xF := fun _ σ => match cnd σ.2.1 with
  | none => none
  | some (true, st) => some (.inl (some t, (σ.1, st, σ.2.2)))
  | some (false, st) => some (.inl (none, (σ.1, st, σ.2.2)))
def xBrR (M : xM) (pc tgt pc' : Nat) (cnd : List Value → Option (Bool × List Value)) : Prop :=
  ∀ (p : Program) (l : Launch) (e : Env) (R : Room) (s : State) (m : MethodId) (args : Array Value) (below : List Frame) (meth : Method) (c : Code) (b : Nat) (aS : Nat → Nat) (D : va_G) (cT : Nat → ClassId), xCx M b aS D cT p s m args meth c →
  ∀ (Q : State → Prop) (H : Heap) (locs : List Loc) (cells slots : Nat) (ls : Array Slot) (st : List Value) (q : Bool × List Value), cnd st = some q → W p l e R s m args below meth c H locs cells slots Q (F0 m (if q.1 then tgt else pc') ls (q.2.map (xv b aS))) → W p l e R s m args below meth c H locs cells slots Q (F0 m pc ls (st.map (xv b aS)))
theorem xok_br {cnd : List Value → Option (Bool × List Value)} {t tgt : Nat} (h : xBrR M pc tgt pc' cnd) (ht : xpc (F.drop t) = tgt) (hn : xpc r = pc') : xOK sg M F (pc, xBr cnd t) r := by
  refine xOK_l ?_
  intro l b aS D cT d calls hc p e s m args below meth c res C σ z hz
  obtain ⟨loc, st, hh, cs, sl⟩ := σ
  simp only [xBr] at hz
  cases ho : cnd st with
  | none => rw [ho] at hz; cases hz
  | some q =>
    rw [ho] at hz
    obtain ⟨bv, st'⟩ := q
    cases bv with
    | true =>
      cases hz
      refine ⟨_, rfl, fun g => ⟨g.1, g.2.1, fun H locs ls hI hl => ?_⟩⟩
      exact h p l e _ s m args below meth c b aS D cT C _ H locs _ _ ls st _ ho (ht ▸ g.2.2 H locs ls hI hl)
    | false =>
      cases hz
      refine ⟨_, rfl, fun g => ⟨g.1, g.2.1, fun H locs ls hI hl => ?_⟩⟩
      exact h p l e _ s m args below meth c b aS D cT C _ H locs _ _ ls st _ ho (hn ▸ g.2.2 H locs ls hI hl)
def xc_go : List Value → Option (Bool × List Value) := fun st => some (true, st)
theorem xb_go {off : Int} {tgt : Nat} (hd : decode M.2.1 pc = .ok (.goto off, 3)) (ht : (pc : Int) + off = (tgt : Int)) : xBrR M pc tgt (pc + 3) xc_go := by
  intro p l e R s m args below meth c b aS D cT C Q H locs cells slots ls st q ho k
  cases ho
  exact lv_goto C.1 C.2.1 hd ht k
def xc_eq : List Value → Option (Bool × List Value)
  | .int x :: st => some (decide (x = 0), st)
  | _ => none
def xc_ne : List Value → Option (Bool × List Value)
  | .int x :: st => some (!decide (x = 0), st)
  | _ => none
def xc_lt : List Value → Option (Bool × List Value)
  | .int x :: st => some (decide (x < 0), st)
  | _ => none
def xc_ge : List Value → Option (Bool × List Value)
  | .int x :: st => some (decide (0 ≤ x), st)
  | _ => none
def xc_gt : List Value → Option (Bool × List Value)
  | .int x :: st => some (decide (0 < x), st)
  | _ => none
def xc_le : List Value → Option (Bool × List Value)
  | .int x :: st => some (decide (x ≤ 0), st)
  | _ => none
def xc_ieq : List Value → Option (Bool × List Value)
  | .int y :: .int x :: st => some (decide (x = y), st)
  | _ => none
def xc_ine : List Value → Option (Bool × List Value)
  | .int y :: .int x :: st => some (!decide (x = y), st)
  | _ => none
def xc_ilt : List Value → Option (Bool × List Value)
  | .int y :: .int x :: st => some (decide (x < y), st)
  | _ => none
def xc_ige : List Value → Option (Bool × List Value)
  | .int y :: .int x :: st => some (decide (y ≤ x), st)
  | _ => none
def xc_igt : List Value → Option (Bool × List Value)
  | .int y :: .int x :: st => some (decide (y < x), st)
  | _ => none
def xc_ile : List Value → Option (Bool × List Value)
  | .int y :: .int x :: st => some (decide (x ≤ y), st)
  | _ => none
theorem xb_eq {off : Int} {tgt : Nat} (hd : decode M.2.1 pc = .ok (.ifCond .eq off, 3)) (ht : (pc : Int) + off = (tgt : Int)) : xBrR M pc tgt (pc + 3) xc_eq := by
  intro p l e R s m args below meth c b aS D cT C Q H locs cells slots ls st q ho k
  unfold xc_eq at ho
  split at ho <;> cases ho
  exact lv_if_eq C.1 C.2.1 hd ht (fun h => by simpa [h] using k) (fun h => by simpa [h] using k)
theorem xb_ne {off : Int} {tgt : Nat} (hd : decode M.2.1 pc = .ok (.ifCond .ne off, 3)) (ht : (pc : Int) + off = (tgt : Int)) : xBrR M pc tgt (pc + 3) xc_ne := by
  intro p l e R s m args below meth c b aS D cT C Q H locs cells slots ls st q ho k
  unfold xc_ne at ho
  split at ho <;> cases ho
  exact lv_if_ne C.1 C.2.1 hd ht (fun h => by simpa [h] using k) (fun h => by simpa [h] using k)
theorem xb_lt {off : Int} {tgt : Nat} (hd : decode M.2.1 pc = .ok (.ifCond .lt off, 3)) (ht : (pc : Int) + off = (tgt : Int)) : xBrR M pc tgt (pc + 3) xc_lt := by
  intro p l e R s m args below meth c b aS D cT C Q H locs cells slots ls st q ho k
  unfold xc_lt at ho
  split at ho <;> cases ho
  rename_i x st1
  refine lv_if_lt C.1 C.2.1 hd ht (fun h => ?_) (fun h => ?_)
  · have k1 := k
    rw [decide_eq_true h] at k1
    exact k1
  · have k1 := k
    rw [decide_eq_false h] at k1
    exact k1
theorem xb_ge {off : Int} {tgt : Nat} (hd : decode M.2.1 pc = .ok (.ifCond .ge off, 3)) (ht : (pc : Int) + off = (tgt : Int)) : xBrR M pc tgt (pc + 3) xc_ge := by
  intro p l e R s m args below meth c b aS D cT C Q H locs cells slots ls st q ho k
  unfold xc_ge at ho
  split at ho <;> cases ho
  refine lv_if_ge C.1 C.2.1 hd ht (fun h => ?_) (fun h => ?_)
  · have k1 := k
    rw [decide_eq_true h] at k1
    exact k1
  · have k1 := k
    rw [decide_eq_false h] at k1
    exact k1
theorem xb_gt {off : Int} {tgt : Nat} (hd : decode M.2.1 pc = .ok (.ifCond .gt off, 3)) (ht : (pc : Int) + off = (tgt : Int)) : xBrR M pc tgt (pc + 3) xc_gt := by
  intro p l e R s m args below meth c b aS D cT C Q H locs cells slots ls st q ho k
  unfold xc_gt at ho
  split at ho <;> cases ho
  refine lv_if_gt C.1 C.2.1 hd ht (fun h => ?_) (fun h => ?_)
  · have k1 := k
    rw [decide_eq_true h] at k1
    exact k1
  · have k1 := k
    rw [decide_eq_false h] at k1
    exact k1
theorem xb_le {off : Int} {tgt : Nat} (hd : decode M.2.1 pc = .ok (.ifCond .le off, 3)) (ht : (pc : Int) + off = (tgt : Int)) : xBrR M pc tgt (pc + 3) xc_le := by
  intro p l e R s m args below meth c b aS D cT C Q H locs cells slots ls st q ho k
  unfold xc_le at ho
  split at ho <;> cases ho
  refine lv_if_le C.1 C.2.1 hd ht (fun h => ?_) (fun h => ?_)
  · have k1 := k
    rw [decide_eq_true h] at k1
    exact k1
  · have k1 := k
    rw [decide_eq_false h] at k1
    exact k1
theorem xb_ieq {off : Int} {tgt : Nat} (hd : decode M.2.1 pc = .ok (.if_icmp .eq off, 3)) (ht : (pc : Int) + off = (tgt : Int)) : xBrR M pc tgt (pc + 3) xc_ieq := by
  intro p l e R s m args below meth c b aS D cT C Q H locs cells slots ls st q ho k
  unfold xc_ieq at ho
  split at ho <;> cases ho
  refine lv_icmp_eq C.1 C.2.1 hd ht (fun h => ?_) (fun h => ?_)
  · have k1 := k
    rw [decide_eq_true h] at k1
    exact k1
  · have k1 := k
    rw [decide_eq_false h] at k1
    exact k1
theorem xb_ine {off : Int} {tgt : Nat} (hd : decode M.2.1 pc = .ok (.if_icmp .ne off, 3)) (ht : (pc : Int) + off = (tgt : Int)) : xBrR M pc tgt (pc + 3) xc_ine := by
  intro p l e R s m args below meth c b aS D cT C Q H locs cells slots ls st q ho k
  unfold xc_ine at ho
  split at ho <;> cases ho
  exact lv_icmp_ne C.1 C.2.1 hd ht (fun h => by simpa [h] using k) (fun h => by simpa [h] using k)
theorem xb_ilt {off : Int} {tgt : Nat} (hd : decode M.2.1 pc = .ok (.if_icmp .lt off, 3)) (ht : (pc : Int) + off = (tgt : Int)) : xBrR M pc tgt (pc + 3) xc_ilt := by
  intro p l e R s m args below meth c b aS D cT C Q H locs cells slots ls st q ho k
  unfold xc_ilt at ho
  split at ho <;> cases ho
  refine lv_icmp_lt C.1 C.2.1 hd ht (fun h => ?_) (fun h => ?_)
  · have k1 := k
    rw [decide_eq_true h] at k1
    exact k1
  · have k1 := k
    rw [decide_eq_false h] at k1
    exact k1
theorem xb_ige {off : Int} {tgt : Nat} (hd : decode M.2.1 pc = .ok (.if_icmp .ge off, 3)) (ht : (pc : Int) + off = (tgt : Int)) : xBrR M pc tgt (pc + 3) xc_ige := by
  intro p l e R s m args below meth c b aS D cT C Q H locs cells slots ls st q ho k
  unfold xc_ige at ho
  split at ho <;> cases ho
  refine lv_icmp_ge C.1 C.2.1 hd ht (fun h => ?_) (fun h => ?_)
  · have k1 := k
    rw [decide_eq_true h] at k1
    exact k1
  · have k1 := k
    rw [decide_eq_false h] at k1
    exact k1
theorem xb_igt {off : Int} {tgt : Nat} (hd : decode M.2.1 pc = .ok (.if_icmp .gt off, 3)) (ht : (pc : Int) + off = (tgt : Int)) : xBrR M pc tgt (pc + 3) xc_igt := by
  intro p l e R s m args below meth c b aS D cT C Q H locs cells slots ls st q ho k
  unfold xc_igt at ho
  split at ho <;> cases ho
  refine lv_icmp_gt C.1 C.2.1 hd ht (fun h => ?_) (fun h => ?_)
  · have k1 := k
    rw [decide_eq_true h] at k1
    exact k1
  · have k1 := k
    rw [decide_eq_false h] at k1
    exact k1
theorem xb_ile {off : Int} {tgt : Nat} (hd : decode M.2.1 pc = .ok (.if_icmp .le off, 3)) (ht : (pc : Int) + off = (tgt : Int)) : xBrR M pc tgt (pc + 3) xc_ile := by
  intro p l e R s m args below meth c b aS D cT C Q H locs cells slots ls st q ho k
  unfold xc_ile at ho
  split at ho <;> cases ho
  refine lv_icmp_le C.1 C.2.1 hd ht (fun h => ?_) (fun h => ?_)
  · have k1 := k
    rw [decide_eq_true h] at k1
    exact k1
  · have k1 := k
    rw [decide_eq_false h] at k1
    exact k1
end XH
