/-! ===== what an instruction of the executor must say of the machine ===== -/
def xpc (k : xK) : Nat := match k with
  | [] => 0
  | e :: _ => e.1
def xnx (F r : xK) (a : Option Nat) : xK := match a with
  | none => r
  | some t => F.drop t
def xmp (b : Nat) (aS : Nat → Nat) (l : List (Nat × Value)) : List (Nat × Value) := l.map (fun q => (q.1, xv b aS q.2))
def xSat (p : Program) (l : Launch) (e : Env) (R : Room) (s : State) (m : MethodId) (args : Array Value) (below : List Frame) (meth : Method) (c : Code) (Q : State → Prop) (b : Nat) (aS : Nat → Nat) (D : va_G) (cT : Nat → ClassId) (nL : Nat) (k : xK) (σ : xS) : Prop :=
  ∀ (H : Heap) (locs : List Loc) (ls : Array Slot), xI b aS D cT s H locs σ.2.2.1 → lv_has ls nL (xmp b aS σ.1) → W p l e R s m args below meth c H locs σ.2.2.2.1 σ.2.2.2.2 Q (F0 m (xpc k) ls (σ.2.1.map (xv b aS)))
/-- the end of a method -/
def xQc (b : Nat) (aS : Nat → Nat) (D : va_G) (cT : Nat → ClassId) (res : xR) : Array Value → State → Outcome → State → Prop := fun _ st o t =>
  o = .returned (res.1.map (xv b aS)) ∧ res.2.1.length ≤ 1000000 ∧ t.heap.size = b + res.2.1.length ∧ va_P D vwCl (xw b aS cT res.2.1) t.heap ∧ va_F (xA b) st t
def xrm (d : Nat) (res : xR) : Room := { frames := d + 5, cells := res.2.2.1, slots := res.2.2.2, locals := 54 * (d + 5) }
def xPre (b : Nat) (aS : Nat → Nat) (D : va_G) (cT : Nat → ClassId) (h : xH) (U : State) : Prop := h.length ≤ 1000000 ∧ U.heap.size = b + h.length ∧ va_P D vwCl (xw b aS cT h) U.heap ∧ xG b aS D cT U
def xGd (p : Program) (l : Launch) (e : Env) (R : Room) (s : State) (m : MethodId) (args : Array Value) (below : List Frame) (meth : Method) (c : Code) (b : Nat) (aS : Nat → Nat) (D : va_G) (cT : Nat → ClassId) (nL : Nat) (res : xR) (k : xK) (σ : xS) : Prop :=
  σ.2.2.2.1 ≤ res.2.2.1 ∧ σ.2.2.2.2 ≤ res.2.2.2 ∧ xSat p l e R s m args below meth c (MQ below (xQc b aS D cT res) args s res.2.2.1 res.2.2.2 (xA b)) b aS D cT nL k σ
/-- a method: its name, code, locals, answer -/
abbrev xM : Type := MethodName × ByteArray × Nat × Option FieldType
def xws (M : xM) : List Cond := Cond.code M.1 M.2.1 M.2.2.1 M.2.2.2 :: xT
def xCallsOK (sg : Nat → Option xM) (l : Launch) (b : Nat) (aS : Nat → Nat) (D : va_G) (cT : Nat → ClassId) (d : Nat) (calls : xC) : Prop :=
  ∀ (i : Nat) (vs : List Value) (h : xH) (res : xR) (M : xM), calls i vs h = some res → sg i = some M → Met l M.1 (xws M) (xrm d res) (va_Pc (vs.map (xv b aS)) (xPre b aS D cT h)) (xQc b aS D cT res) res.2.2.1 res.2.2.2 (xA b)
/-- where a method stands -/
def xCx (M : xM) (b : Nat) (aS : Nat → Nat) (D : va_G) (cT : Nat → ClassId) (p : Program) (s : State) (m : MethodId) (args : Array Value) (meth : Method) (c : Code) : Prop :=
  p.tables.exec = Jvm.exec ∧ c.code = M.2.1 ∧ c.maxLocals = M.2.2.1 ∧ s.vm.findClass M.1.cls = some m.cls ∧ meth.name = M.1.name ∧ meth.sig.returnType = M.2.2.2 ∧ meth.locks = false ∧ (∀ w ∈ xT, w.before args s = true) ∧ xG b aS D cT s
def xOK (sg : Nat → Option xM) (M : xM) (F : xK) (i : Nat × xF) (r : xK) : Prop :=
  ∀ (l : Launch) (b : Nat) (aS : Nat → Nat) (D : va_G) (cT : Nat → ClassId) (d : Nat) (calls : xC), xCallsOK sg l b aS D cT d calls →
  ∀ (p : Program) (e : Env) (s : State) (m : MethodId) (args : Array Value) (below : List Frame) (meth : Method) (c : Code) (res : xR), xCx M b aS D cT p s m args meth c →
  ∀ σ : xS, match i.2 calls σ with
    | none => True
    | some (.inl q) => xGd p l e (xrm (d + 1) res) s m args below meth c b aS D cT M.2.2.1 res (xnx F r q.1) q.2 → xGd p l e (xrm (d + 1) res) s m args below meth c b aS D cT M.2.2.1 res (i :: r) σ
    | some (.inr res') => res' = res → xGd p l e (xrm (d + 1) res) s m args below meth c b aS D cT M.2.2.1 res (i :: r) σ
def xOKs (sg : Nat → Option xM) (M : xM) (F : xK) : xK → Prop
  | [] => True
  | i :: r => xOK sg M F i r ∧ xOKs sg M F r
theorem xOKs_drop {sg : Nat → Option xM} {M : xM} {F : xK} : ∀ (t : Nat) (k : xK), xOKs sg M F k → xOKs sg M F (k.drop t)
  | 0, k, h => h
  | t + 1, [], h => h
  | t + 1, i :: r, h => xOKs_drop t r h.2
theorem xOKs_nx {sg : Nat → Option xM} {M : xM} {F r : xK} {i : Nat × xF} (hF : xOKs sg M F F) (h : xOKs sg M F (i :: r)) (a : Option Nat) : xOKs sg M F (xnx F r a) := by
  cases a with
  | none => exact h.2
  | some t => exact xOKs_drop t F hF
/-- a step, and 2 ^ n steps -/
def xstep (calls : xC) (F : xK) (s : Option ((xK × xS) ⊕ xR)) : Option ((xK × xS) ⊕ xR) := match s with
  | none => none
  | some (.inr res) => some (.inr res)
  | some (.inl q) => match q.1 with
    | [] => none
    | i :: r => match i.2 calls q.2 with
      | none => none
      | some (.inr res) => some (.inr res)
      | some (.inl z) => some (.inl (xnx F r z.1, z.2))
noncomputable def xrun (calls : xC) (F : xK) (n : Nat) : Option ((xK × xS) ⊕ xR) → Option ((xK × xS) ⊕ xR) :=
  Nat.rec (motive := fun _ => Option ((xK × xS) ⊕ xR) → Option ((xK × xS) ⊕ xR)) (xstep calls F) (fun _ ih s => match ih s with
    | some (.inl q) => ih (some (.inl q))
    | some (.inr res) => some (.inr res)
    | none => none) n
def xGs (sg : Nat → Option xM) (M : xM) (F : xK) (p : Program) (l : Launch) (e : Env) (R : Room) (s : State) (m : MethodId) (args : Array Value) (below : List Frame) (meth : Method) (c : Code) (b : Nat) (aS : Nat → Nat) (D : va_G) (cT : Nat → ClassId) (res : xR) : Option ((xK × xS) ⊕ xR) → Prop
  | none => False
  | some (.inr res') => res' = res
  | some (.inl q) => xOKs sg M F q.1 → xGd p l e R s m args below meth c b aS D cT M.2.2.1 res q.1 q.2
section XR
variable {sg : Nat → Option xM} {M : xM} {F : xK} {p : Program} {l : Launch} {e : Env} {s : State} {m : MethodId} {args : Array Value} {below : List Frame} {meth : Method} {c : Code} {b : Nat} {aS : Nat → Nat} {D : va_G} {cT : Nat → ClassId} {res : xR} {d : Nat} {calls : xC}
theorem xstep_ok (hF : xOKs sg M F F) (hcalls : xCallsOK sg l b aS D cT d calls) (C : xCx M b aS D cT p s m args meth c) (t : Option ((xK × xS) ⊕ xR)) (h : xGs sg M F p l e (xrm (d + 1) res) s m args below meth c b aS D cT res (xstep calls F t)) : xGs sg M F p l e (xrm (d + 1) res) s m args below meth c b aS D cT res t := by
  match t, h with
  | none, h => exact h
  | some (.inr res'), h => exact h
  | some (.inl (k, σ)), h =>
    intro hk
    match k, hk, h with
    | [], hk, h => exact absurd h id
    | i :: r, hk, h =>
      have h1 := hk.1 l b aS D cT d calls hcalls p e s m args below meth c res C σ
      simp only [xstep] at h
      cases hi : i.2 calls σ with
      | none => rw [hi] at h; exact absurd h id
      | some z =>
        rw [hi] at h h1
        cases z with
        | inl q => exact h1 (h (xOKs_nx hF hk q.1))
        | inr res' => exact h1 h
theorem xrun_ok (hF : xOKs sg M F F) (hcalls : xCallsOK sg l b aS D cT d calls) (C : xCx M b aS D cT p s m args meth c) (n : Nat) : ∀ (t : Option ((xK × xS) ⊕ xR)), xGs sg M F p l e (xrm (d + 1) res) s m args below meth c b aS D cT res (xrun calls F n t) → xGs sg M F p l e (xrm (d + 1) res) s m args below meth c b aS D cT res t := by
  induction n with
  | zero => exact fun t h => xstep_ok hF hcalls C t h
  | succ n ih =>
    intro t h
    refine ih t ?_
    have e1 : xrun calls F (n + 1) t = (match xrun calls F n t with
      | some (.inl q) => xrun calls F n (some (.inl q))
      | some (.inr res) => some (.inr res)
      | none => none) := rfl
    rw [e1] at h
    cases hz : xrun calls F n t with
    | none => rw [hz] at h; exact h
    | some z =>
      rw [hz] at h
      cases z with
      | inl q => exact ih _ h
      | inr res' => exact h
end XR
/-- a method with its code -/
def xwf (sg : Nat → Option xM) (M : xM) (F : xK) : Prop := xOKs sg M F F ∧ xpc F = 0 ∧ plainName M.1.cls = true
theorem xlg {b : Nat} {aS : Nat → Nat} (vs : List Value) : (lg_sl (vs.map (xv b aS))).length = (lg_sl vs).length := by
  induction vs with
  | nil => rfl
  | cons v vs ih =>
    simp only [lg_sl, List.map_cons, List.flatMap_cons, List.length_append] at ih ⊢
    rw [ih, xv_cat]
    by_cases hc : v.category = 2 <;> simp [hc]
theorem xlv {b : Nat} {aS : Nat → Nat} : ∀ (vs : List Value) (i : Nat), lv_args i (vs.map (xv b aS)) = xmp b aS (lv_args i vs)
  | [], i => rfl
  | v :: vs, i => by
    show (i, xv b aS v) :: lv_args _ (vs.map (xv b aS)) = (i, xv b aS v) :: xmp b aS _
    rw [xlv vs, xv_cat]
/-- what a method's run comes to -/
def xend (z : Option ((xK × xS) ⊕ xR)) : Option xR := match z with
  | some (.inr res) => some res
  | _ => none
noncomputable def xen (sg : Nat → Option xM) (pr : Nat → Option xK) (calls : xC) (i : Nat) (vs : List Value) (h : xH) : Option xR := match sg i with
  | some M => match pr i with
    | some F => match Nat.ble (lg_sl vs).length M.2.2.1 with
      | true => xend (xrun calls F 14 (some (.inl (F, (lv_args 0 vs, [], h, 0, 0)))))
      | false => none
    | none => none
  | none => none
noncomputable def xex (sg : Nat → Option xM) (pr : Nat → Option xK) (d : Nat) : xC := Nat.rec (motive := fun _ => xC) (fun _ _ _ => none) (fun _ ih => xen sg pr ih) d
theorem xen_spec {sg : Nat → Option xM} {pr : Nat → Option xK} {calls : xC} {i : Nat} {vs : List Value} {h : xH} {res : xR} {M : xM} (hc : xen sg pr calls i vs h = some res) (hM : sg i = some M) : ∃ F, pr i = some F ∧ (lg_sl vs).length ≤ M.2.2.1 ∧ xrun calls F 14 (some (.inl (F, (lv_args 0 vs, [], h, 0, 0)))) = some (.inr res) := by
  unfold xen at hc
  rw [hM] at hc
  cases hF : pr i with
  | none => rw [hF] at hc; cases hc
  | some F =>
    rw [hF] at hc
    dsimp only at hc
    cases hl : Nat.ble (lg_sl vs).length M.2.2.1 with
    | true =>
      rw [hl] at hc
      dsimp only at hc
      refine ⟨F, rfl, Nat.le_of_ble_eq_true hl, ?_⟩
      generalize xrun calls F 14 (some (.inl (F, (lv_args 0 vs, [], h, 0, 0)))) = z at hc
      match z, hc with
      | some (.inr res'), hc => rw [show res' = res from Option.some.inj hc]
    | false =>
      rw [hl] at hc
      cases hc
theorem xen_met {sg : Nat → Option xM} {M : xM} {F : xK} {l : Launch} {b : Nat} {aS : Nat → Nat} {D : va_G} {cT : Nat → ClassId} {d : Nat} {calls : xC} {vs : List Value} {h : xH} {res : xR} {n : Nat} (w : xwf sg M F) (ih : xCallsOK sg l b aS D cT d calls) (hn : (lg_sl vs).length ≤ M.2.2.1) (hr : xrun calls F n (some (.inl (F, (lv_args 0 vs, [], h, 0, 0)))) = some (.inr res)) :
    Met l M.1 (xws M) (xrm (d + 1) res) (va_Pc (vs.map (xv b aS)) (xPre b aS D cT h)) (xQc b aS D cT res) res.2.2.1 res.2.2.2 (xA b) := by
  obtain ⟨w1, w2, w3⟩ := w
  refine Met.ofW (cc := M.2.1) (maxL := M.2.2.1) (ret := M.2.2.2) w3 rfl ?_
  intro p e s m args below meth c s₁ B hml hv
  obtain ⟨rfl, hl1, hsz, hP, hG⟩ := hv
  have hts := atoms_spec (ws := xws M) B.pre
  have C : xCx M b aS D cT p s m (vs.map (xv b aS)).toArray meth c := ⟨B.exec, B.bytes, hml, findClass_of_methodNamed B.named, (name_of_methodNamed B.named B.method).1, B.returns, B.notSynchronized, fun w hw => hts w (List.mem_cons_of_mem _ hw), hG⟩
  have key := xrun_ok (e := e) (below := below) (res := res) w1 ih C n (some (.inl (F, (lv_args 0 vs, [], h, 0, 0)))) (by rw [hr]; rfl)
  obtain ⟨-, -, k⟩ := key w1
  have hl := lv_entry (vs.map (xv b aS)) (n := M.2.2.1) (by rw [xlg]; exact hn)
  rw [lg_entry_eq]
  rw [xlv] at hl
  have k := k s.heap [] _ ⟨hl1, hsz, hP, va_S.rf⟩ hl
  rw [w2] at k
  exact k
theorem xex_ok {sg : Nat → Option xM} {pr : Nat → Option xK} (hpr : ∀ i M F, sg i = some M → pr i = some F → xwf sg M F) (l : Launch) (b : Nat) (aS : Nat → Nat) (D : va_G) (cT : Nat → ClassId) (d : Nat) : xCallsOK sg l b aS D cT d (xex sg pr d) := by
  induction d with
  | zero => intro i vs h res M hc _; cases hc
  | succ d ih =>
    intro i vs h res M hc hM
    obtain ⟨F, hF, hl, hr⟩ := xen_spec (calls := xex sg pr d) hc hM
    exact xen_met (hpr i M F hM hF) ih hl hr
