/-! ===== the class: runs by rules, with a few numbers watched ===== -/
/-- at, kept, fault, code's size, the tape's -/
abbrev sW : Type := Int32 × Int32 × Int32 × Int32 × Int32
/-- where `at` stands; the program; references that are known -/
abbrev wW : Type := (Nat × Nat) × Nat × List (Nat × Nat × Nat)
def wsQ (w : wW) (h : xH) (s : sW) : Prop := (fld h w.1.1 w.1.2 = some (.int s.1) ∧ fld h w.2.1 10 = some (.int s.2.1) ∧ fld h w.2.1 14 = some (.int s.2.2.1) ∧ fld h (w.2.1 + 34) 2 = some (.int s.2.2.2.1) ∧ fld h 1 2 = some (.int s.2.2.2.2) ∧ ∃ x : Int32, fld h (42 - w.2.1) 10 = some (.int x) ∧ (x.toInt ≤ 1200000000 ∨ w.1.1 = 82)) ∧ ∀ p ∈ w.2.2, fld h p.1 p.2.1 = some (.ref p.2.2)
/-- an int field -/
def isIf (a k : Nat) : Bool := (Nat.blt a 213 && !(Nat.beq (oc a) 99)) && (match (fk a)[k]? with
  | some (.inl _) => true
  | _ => false)
def wgd (w : wW) : Bool := (Nat.beq w.2.1 3 || Nat.beq w.2.1 39) && isIf w.1.1 w.1.2
theorem wgd_P {w : wW} (h : wgd w = true) : w.2.1 = 3 ∨ w.2.1 = 39 := by
  unfold wgd at h
  rw [Bool.and_eq_true, Bool.or_eq_true] at h
  rcases h.1 with h | h
  · exact Or.inl (Nat.eq_of_beq_eq_true h)
  · exact Or.inr (Nat.eq_of_beq_eq_true h)
theorem fl_of {h : xH} {a k : Nat} {K : cK} (hI : INV h) (ha : (Nat.blt a 213 && !(Nat.beq (oc a) 99)) = true) (hk : (fk a)[k]? = some K) : ∃ fs v, h[a]? = some (.inr (oc a, fs)) ∧ fs[k]? = some v ∧ fld h a k = some v ∧ qvK K v := by
  rw [Bool.and_eq_true] at ha
  have h1 : a < 213 := Nat.le_of_ble_eq_true ha.1
  have h2 : ¬ oc a = 99 := fun w => by
    have := ha.2
    rw [w] at this
    cases this
  obtain ⟨fs, e1, -, e3⟩ := hI.1 a h1 h2
  obtain ⟨v, v1, v2⟩ := e3 k K hk
  refine ⟨fs, v, e1, v1, ?_, v2⟩
  unfold fld
  rw [e1]
  exact v1
theorem isIf_ok {h : xH} {a k : Nat} (hI : INV h) (hk : isIf a k = true) : ∃ x : Int32, fld h a k = some (.int x) ∧ ∀ lo hi, (fk a)[k]? = some (.inl (lo, hi)) → lo ≤ x.toInt ∧ x.toInt ≤ hi := by
  unfold isIf at hk
  rw [Bool.and_eq_true] at hk
  obtain ⟨h1, h2⟩ := hk
  cases hf : (fk a)[k]? with
  | none => rw [hf] at h2; cases h2
  | some K =>
    rw [hf] at h2
    cases K using cKe with
    | i lo hi =>
      obtain ⟨fs, v, -, -, e, x, rfl, x1, x2⟩ := fl_of hI h1 hf
      refine ⟨x, e, fun lo' hi' e' => ?_⟩
      cases e'
      exact ⟨x1, x2⟩
    | _ => cases h2
/-- what a call leaves of them -/
def kpS (W' : List (Nat × Nat)) (w : wW) (s s' : sW) : Prop := (¬ (wc w.1.1, w.1.2) ∈ W' → s'.1 = s.1) ∧ s'.2.1 = s.2.1 ∧ (¬ (4, 14) ∈ W' → s'.2.2.1 = s.2.2.1) ∧ (¬ (200, 14) ∈ W' → s'.2.2.1.toInt = 0 → s.2.2.1.toInt = 0) ∧ (¬ (101, 2) ∈ W' → s'.2.2.2.1 = s.2.2.2.1) ∧ (¬ (100, 2) ∈ W' → s'.2.2.2.2 = s.2.2.2.2) ∧ (∀ lo hi, (fk w.1.1)[w.1.2]? = some (.inl (lo, hi)) → lo ≤ s'.1.toInt ∧ s'.1.toInt ≤ hi)
def wokL (W' : List (Nat × Nat)) : List (Nat × Nat × Nat) → Bool
  | [] => true
  | p :: l => (Nat.blt p.1 213 && !(wmem (wc p.1, p.2.1) W')) && wokL W' l
theorem wokL_ok {W' : List (Nat × Nat)} {p : Nat × Nat × Nat} : ∀ {l : List (Nat × Nat × Nat)}, wokL W' l = true → p ∈ l → p.1 < 213 ∧ ¬ (wc p.1, p.2.1) ∈ W'
  | [], _, h => absurd h List.not_mem_nil
  | q :: l, h, hp => by
    unfold wokL at h
    rw [Bool.and_eq_true, Bool.and_eq_true] at h
    rcases List.mem_cons.mp hp with rfl | hp
    · refine ⟨Nat.le_of_ble_eq_true h.1.1, wmem_no ?_⟩
      have := h.1.2
      cases hb : wmem (wc p.1, p.2.1) W' with
      | false => rfl
      | true => rw [hb] at this; cases this
    · exact wokL_ok h.2 hp
def wok (W' : List (Nat × Nat)) (w : wW) : Bool := (wgd w && !(wmem (4, 10) W')) && wokL W' w.2.2
theorem z32 {x : Int32} : x.toInt = 0 ↔ x = 0 := ⟨fun h => Int32.toInt_inj.mp (h.trans i0.symm), fun h => by rw [h]; exact i0⟩
theorem WS_fr {W' : List (Nat × Nat)} {w : wW} {h h' : xH} {s : sW} {cs sl : Nat} (hc : CST W' h h' cs sl) (hk : wok W' w = true) (hs : wsQ w h s) : ∃ s', wsQ w h' s' ∧ kpS W' w s s' := by
  unfold wok at hk
  rw [Bool.and_eq_true, Bool.and_eq_true] at hk
  obtain ⟨⟨k1, k2⟩, k3⟩ := hk
  have hP := wgd_P k1
  have k4 : ¬ (4, 10) ∈ W' := wmem_no (by cases hb : wmem (4, 10) W' with | false => rfl | true => rw [hb] at k2; cases k2)
  obtain ⟨hI, ⟨⟨-, f1, -⟩, f2⟩, -⟩ := hc
  unfold wgd at k1
  rw [Bool.and_eq_true] at k1
  obtain ⟨⟨s1, s2, s3, s4, s5, x6, s6, s7⟩, s8⟩ := hs
  obtain ⟨a', a1, a2⟩ := isIf_ok hI k1.2
  have at213 : w.1.1 < 213 := by
    have := k1.2
    unfold isIf at this
    rw [Bool.and_eq_true, Bool.and_eq_true] at this
    exact Nat.le_of_ble_eq_true this.1.1
  have hf : ∃ f' : Int32, fld h' w.2.1 14 = some (.int f') := by
    rcases hP with e | e <;> rw [e]
    · obtain ⟨x, x1, -⟩ := isIf_ok (a := 3) (k := 14) hI (by decide +kernel)
      exact ⟨x, x1⟩
    · obtain ⟨x, x1, -⟩ := isIf_ok (a := 39) (k := 14) hI (by decide +kernel)
      exact ⟨x, x1⟩
  have hz : ∃ c' : Int32, fld h' (w.2.1 + 34) 2 = some (.int c') := by
    rcases hP with e | e <;> rw [e]
    · obtain ⟨x, x1, -⟩ := isIf_ok (a := 37) (k := 2) hI (by decide +kernel)
      exact ⟨x, x1⟩
    · obtain ⟨x, x1, -⟩ := isIf_ok (a := 73) (k := 2) hI (by decide +kernel)
      exact ⟨x, x1⟩
  obtain ⟨f', hf⟩ := hf
  obtain ⟨c', hz⟩ := hz
  obtain ⟨t', ht, -⟩ := isIf_ok (a := 1) (k := 2) hI (by decide +kernel)
  have wP : wc w.2.1 = 4 ∧ w.2.1 < 213 := by
    rcases hP with e | e <;> rw [e] <;> decide +kernel
  have wQ : wc (42 - w.2.1) = 4 ∧ 42 - w.2.1 < 213 := by
    rcases hP with e | e <;> rw [e] <;> decide +kernel
  have wR : wc (w.2.1 + 34) = 101 ∧ w.2.1 + 34 < 213 := by
    rcases hP with e | e <;> rw [e] <;> decide +kernel
  have w1 : wc 1 = 100 := by decide +kernel
  refine ⟨(a', s.2.1, f', c', t'), ⟨⟨a1, ?_, hf, hz, ht, x6, ?_, s7⟩, fun p hp => ?_⟩, fun q => ?_, rfl, fun q => ?_, fun q q2 => ?_, fun q => ?_, fun q => ?_, a2⟩
  · exact (f2 _ 10 wP.2 (by rw [wP.1]; exact k4)).trans s2
  · exact (f2 _ 10 wQ.2 (by rw [wQ.1]; exact k4)).trans s6
  · obtain ⟨p1, p2⟩ := wokL_ok k3 hp
    exact (f2 _ _ p1 p2).trans (s8 p hp)
  · have e := (f2 _ _ at213 q).trans s1
    rw [a1] at e
    exact Value.int.inj (Option.some.inj e)
  · have e := (f2 _ 14 wP.2 (by rw [wP.1]; exact q)).trans s3
    rw [hf] at e
    exact Value.int.inj (Option.some.inj e)
  · rcases f1 with f1 | f1
    · exact absurd f1 q
    · have e := f1 w.2.1 hP (by unfold flz; rw [hf]; exact congrArg (fun z : Int32 => some (Value.int z)) (z32.mp q2))
      unfold flz at e
      rw [s3] at e
      exact z32.mpr (Value.int.inj (Option.some.inj e))
  · have e := (f2 _ 2 wR.2 (by rw [wR.1]; exact q)).trans s4
    rw [hz] at e
    exact Value.int.inj (Option.some.inj e)
  · have e := (f2 1 2 (by decide) (by rw [w1]; exact q)).trans s5
    rw [ht] at e
    exact Value.int.inj (Option.some.inj e)
/-- a run from a place of a method's code to its end -/
def Rn (d : Nat) (W : List (Nat × Nat)) (w w' : wW) (L : xLD) (ml : Nat) (ret : Option FieldType) (E l : xCd) (rl st : List Value) (s : sW) (P : Option Value → sW → Prop) : Prop :=
  ∀ hh, INV hh → wsQ w hh s → ∃ (n : Nat) (v : Option Value) (h' : xH) (cs' sl' : Nat) (s' : sW), P v s' ∧ wsQ w' h' s' ∧ CST W hh h' cs' sl' ∧ ∀ (loc : cLoc) (cs sl : Nat), yL rl loc → xit (yex d) (xmk L ml ret false E E) n (some (.inl (xmk L ml ret false E l, (loc, st, hh, cs, sl)))) = some (.inr (v, h', cs + cs', sl + sl'))
/-- a call -/
def Tt (d : Nat) (W : List (Nat × Nat)) (w w' : wW) (j : Nat) (vs : List Value) (s : sW) (P : Option Value → sW → Prop) : Prop :=
  ∀ hh, INV hh → wsQ w hh s → ∃ (v : Option Value) (h' : xH) (cs sl : Nat) (s' : sW), P v s' ∧ wsQ w' h' s' ∧ CST W hh h' cs sl ∧ yex d j vs hh = some (v, h', cs, sl)
theorem Tt.imp {d : Nat} {W : List (Nat × Nat)} {w w' : wW} {j : Nat} {vs : List Value} {s : sW} {P Q : Option Value → sW → Prop} (h : Tt d W w w' j vs s P) (hq : ∀ v s', P v s' → Q v s') : Tt d W w w' j vs s Q := by
  intro hh hI hw
  obtain ⟨v, h', cs, sl, s', h1, h2⟩ := h hh hI hw
  exact ⟨v, h', cs, sl, s', hq v s' h1, h2⟩
theorem Tt.mo {d d' : Nat} {W : List (Nat × Nat)} {w w' : wW} {j : Nat} {vs : List Value} {s : sW} {P : Option Value → sW → Prop} (hd : d ≤ d') (h : Tt d W w w' j vs s P) : Tt d' W w w' j vs s P := by
  intro hh hI hw
  obtain ⟨v, h', cs, sl, s', h1, h2, h3, h4⟩ := h hh hI hw
  exact ⟨v, h', cs, sl, s', h1, h2, h3, yex_mono hd j vs hh _ h4⟩
section RN
variable {d ml : Nat} {W : List (Nat × Nat)} {w w' : wW} {L : xLD} {ret : Option FieldType} {E : xCd} {pc len : Nat} {i : Instr} {r : xCd} {rl st : List Value} {s : sW} {P : Option Value → sW → Prop}
theorem n_step {rl' st' : List Value} {f : xF} (hf : xIt L ml ret false E pc i len r = f) (F : cLoc → cLoc) (hF : ∀ loc, yL rl loc → yL rl' (F loc)) (h : ∀ (hh : xH) (loc : cLoc) (cs sl : Nat), INV hh → wsQ w hh s → yL rl loc → f (yex d) (loc, st, hh, cs, sl) = some (.inl (none, (F loc, st', hh, cs, sl)))) (g : Rn d W w w' L ml ret E r rl' st' s P) : Rn d W w w' L ml ret E ((pc, i, len) :: r) rl st s P := by
  intro hh hI hw
  obtain ⟨n, v, h2, cs', sl', s', p1, p2, p3, p4⟩ := g hh hI hw
  refine ⟨n + 1, v, h2, cs', sl', s', p1, p2, p3, fun loc cs sl hl => ?_⟩
  show xit (yex d) _ (n + 1) (some (.inl ((pc, xIt L ml ret false E pc i len r) :: xmk L ml ret false E r, _))) = _
  rw [hf]
  exact xit_l (h hh loc cs sl hI hw hl) (p4 (F loc) cs sl (hF loc hl))
theorem n_gen {f : xF} (hf : xIt L ml ret false E pc i len r = f) (h : ∀ hh, INV hh → wsQ w hh s → ∃ (hh' : xH) (cs1 sl1 : Nat) (w1 : wW) (s1 : sW) (st1 : List Value), CST W hh hh' cs1 sl1 ∧ wsQ w1 hh' s1 ∧ Rn d W w1 w' L ml ret E r rl st1 s1 P ∧ ∀ (loc : cLoc) (cs sl : Nat), f (yex d) (loc, st, hh, cs, sl) = some (.inl (none, (loc, st1, hh', cs + cs1, sl + sl1)))) : Rn d W w w' L ml ret E ((pc, i, len) :: r) rl st s P := by
  intro hh hI hw
  obtain ⟨hh', cs1, sl1, w1, s1, st1, c1, c2, g, c3⟩ := h hh hI hw
  obtain ⟨n, v, h2, cs', sl', s', p1, p2, p3, p4⟩ := g hh' c1.1 c2
  refine ⟨n + 1, v, h2, cs1 + cs', sl1 + sl', s', p1, p2, CST_tr c1 p3, fun loc cs sl hl => ?_⟩
  show xit (yex d) _ (n + 1) (some (.inl ((pc, xIt L ml ret false E pc i len r) :: xmk L ml ret false E r, _))) = _
  rw [hf, ← Nat.add_assoc, ← Nat.add_assoc]
  exact xit_l (c3 loc cs sl) (p4 loc _ _ hl)
theorem n_jump {st' : List Value} {t : Nat} {f : xF} (hf : xIt L ml ret false E pc i len r = f) (h : ∀ (hh : xH) (loc : cLoc) (cs sl : Nat), f (yex d) (loc, st, hh, cs, sl) = some (.inl (some t, (loc, st', hh, cs, sl)))) (g : Rn d W w w' L ml ret E (E.drop t) rl st' s P) : Rn d W w w' L ml ret E ((pc, i, len) :: r) rl st s P := by
  intro hh hI hw
  obtain ⟨n, v, h2, cs', sl', s', p1, p2, p3, p4⟩ := g hh hI hw
  refine ⟨n + 1, v, h2, cs', sl', s', p1, p2, p3, fun loc cs sl hl => ?_⟩
  show xit (yex d) _ (n + 1) (some (.inl ((pc, xIt L ml ret false E pc i len r) :: xmk L ml ret false E r, _))) = _
  rw [hf]
  refine xit_l (h hh loc cs sl) ?_
  have h3 := p4 loc cs sl hl
  rw [← xmk_drop] at h3
  exact h3
theorem n_end {v : Option Value} {f : xF} (hf : xIt L ml ret false E pc i len r = f) (h : ∀ (hh : xH) (loc : cLoc) (cs sl : Nat), f (yex d) (loc, st, hh, cs, sl) = some (.inr (v, hh, cs, sl))) (hp : P v s) : Rn d W w w L ml ret E ((pc, i, len) :: r) rl st s P := by
  intro hh hI hw
  refine ⟨1, v, hh, 0, 0, s, hp, hw, CST_rf hI, fun loc cs sl hl => ?_⟩
  show xit (yex d) _ (0 + 1) (some (.inl ((pc, xIt L ml ret false E pc i len r) :: xmk L ml ret false E r, _))) = _
  rw [hf]
  exact xit_r (h hh loc cs sl)
theorem n_fg {l : xCd} (k : Nat) (g : Rn d W w w' L ml ret E l (rl.set k .null) st s P) : Rn d W w w' L ml ret E l rl st s P := by
  intro hh hI hw
  obtain ⟨n, v, h2, cs', sl', s', p1, p2, p3, p4⟩ := g hh hI hw
  exact ⟨n, v, h2, cs', sl', s', p1, p2, p3, fun loc cs sl hl => p4 loc cs sl (yL_fg hl)⟩
/-- less is known -/
def m3 (p : Nat × Nat × Nat) : List (Nat × Nat × Nat) → Bool
  | [] => false
  | q :: l => (Nat.beq p.1 q.1 && (Nat.beq p.2.1 q.2.1 && Nat.beq p.2.2 q.2.2)) || m3 p l
theorem m3_ok {p : Nat × Nat × Nat} : ∀ {l : List (Nat × Nat × Nat)}, m3 p l = true → p ∈ l
  | [], h => by cases h
  | q :: l, h => by
    unfold m3 at h
    rw [Bool.or_eq_true, Bool.and_eq_true, Bool.and_eq_true] at h
    rcases h with h | h
    · have e : p = q := by
        obtain ⟨p1, p2, p3⟩ := p
        obtain ⟨q1, q2, q3⟩ := q
        have e1 := Nat.eq_of_beq_eq_true h.1
        have e2 := Nat.eq_of_beq_eq_true h.2.1
        have e3 := Nat.eq_of_beq_eq_true h.2.2
        dsimp only at e1 e2 e3
        rw [e1, e2, e3]
      rw [e]
      exact List.mem_cons_self
    · exact List.mem_cons_of_mem _ (m3_ok h)
def s3 (l : List (Nat × Nat × Nat)) : List (Nat × Nat × Nat) → Bool
  | [] => true
  | p :: c => m3 p l && s3 l c
theorem s3_ok {l : List (Nat × Nat × Nat)} {p : Nat × Nat × Nat} : ∀ {c : List (Nat × Nat × Nat)}, s3 l c = true → p ∈ c → p ∈ l
  | [], _, h => absurd h List.not_mem_nil
  | q :: c, h, hp => by
    unfold s3 at h
    rw [Bool.and_eq_true] at h
    rcases List.mem_cons.mp hp with rfl | hp
    · exact m3_ok h.1
    · exact s3_ok h.2 hp
theorem WS_wk {w : wW} {c : List (Nat × Nat × Nat)} {hh : xH} {s : sW} (h : s3 w.2.2 c = true) (hs : wsQ w hh s) : wsQ (w.1, w.2.1, c) hh s := ⟨hs.1, fun p hp => hs.2 p (s3_ok h hp)⟩
theorem n_wk {c : List (Nat × Nat × Nat)} {l : xCd} (h : s3 w.2.2 c = true) (g : Rn d W (w.1, w.2.1, c) w' L ml ret E l rl st s P) : Rn d W w w' L ml ret E l rl st s P := fun hh hI hw => g hh hI (WS_wk h hw)
theorem n_ld {k : Nat} {ok : Value → Bool} {v : Value} (hf : xIt L ml ret false E pc i len r = xLd k ok) (hk : rl[k]? = some v) (hv : (ynn v && ok v) = true) (g : Rn d W w w' L ml ret E r rl (v :: st) s P) : Rn d W w w' L ml ret E ((pc, i, len) :: r) rl st s P := by
  rw [Bool.and_eq_true] at hv
  refine n_step hf (fun l => l) (fun _ h => h) (fun hh loc cs sl _ _ hl => ?_) g
  simp only [xLd, yL_ld hl hk hv.1, hv.2]
theorem n_st (rl' : List Value) {k : Nat} {ok : Value → Bool} {v : Value} (hf : xIt L ml ret false E pc i len r = xSt k ok xf1) (hv : (ok v && ylj rl k) = true) (he : rl.set k v = rl') (g : Rn d W w w' L ml ret E r rl' st s P) : Rn d W w w' L ml ret E ((pc, i, len) :: r) rl (v :: st) s P := by
  rw [Bool.and_eq_true] at hv
  subst he
  refine n_step hf (fun l => (k, v) :: xf1 k l) (fun _ h => yL_st h hv.2) (fun hh loc cs sl _ _ hl => ?_) g
  simp only [xSt, hv.1]
theorem n_inc (rl' : List Value) {k : Nat} {n : Int} {x : Int32} (hf : xIt L ml ret false E pc i len r = xInc k n) (hk : rl[k]? = some (.int x)) (hv : ylj rl k = true) (he : rl.set k (.int (x + Int32.ofInt n)) = rl') (g : Rn d W w w' L ml ret E r rl' st s P) : Rn d W w w' L ml ret E ((pc, i, len) :: r) rl st s P := by
  subst he
  refine n_step hf (fun l => (k, .int (x + Int32.ofInt n)) :: xf1 k l) (fun _ h => yL_st h hv) (fun hh loc cs sl _ _ hl => ?_) g
  simp only [xInc, yL_ld hl hk rfl]
theorem n_c (st' : List Value) (op : List Value → Option (List Value)) (hf : xIt L ml ret false E pc i len r = xPure op) (ho : op st = some st') (g : Rn d W w w' L ml ret E r rl st' s P) : Rn d W w w' L ml ret E ((pc, i, len) :: r) rl st s P := by
  refine n_step hf (fun l => l) (fun _ h => h) (fun hh loc cs sl _ _ hl => ?_) g
  simp only [xPure, ho]
theorem n_br {c : List Value → Option (Bool × List Value)} {t : Nat} {b : Bool} {st' : List Value} (hf : xIt L ml ret false E pc i len r = xBr c t) (hc : c st = some (b, st')) (g1 : b = true → Rn d W w w' L ml ret E (E.drop t) rl st' s P) (g2 : b = false → Rn d W w w' L ml ret E r rl st' s P) : Rn d W w w' L ml ret E ((pc, i, len) :: r) rl st s P := by
  cases b with
  | true => exact n_jump hf (fun hh loc cs sl => by simp only [xBr, hc]) (g1 rfl)
  | false => exact n_step hf (fun l => l) (fun _ h => h) (fun hh loc cs sl _ _ hl => by simp only [xBr, hc]) (g2 rfl)
theorem n_brP {c : List Value → Option (Bool × List Value)} {t : Nat} {p : Prop} {dp : Decidable p} {st' : List Value} (hf : xIt L ml ret false E pc i len r = xBr c t) (hc : c st = some (@decide p dp, st')) (g : (p → Rn d W w w' L ml ret E (E.drop t) rl st' s P) ∧ (¬ p → Rn d W w w' L ml ret E r rl st' s P)) : Rn d W w w' L ml ret E ((pc, i, len) :: r) rl st s P :=
  n_br hf hc (fun h => g.1 (of_decide_eq_true h)) (fun h => g.2 (of_decide_eq_false h))
theorem n_brN {c : List Value → Option (Bool × List Value)} {t : Nat} {p : Prop} {dp : Decidable p} {st' : List Value} (hf : xIt L ml ret false E pc i len r = xBr c t) (hc : c st = some (!@decide p dp, st')) (g : (¬ p → Rn d W w w' L ml ret E (E.drop t) rl st' s P) ∧ (p → Rn d W w w' L ml ret E r rl st' s P)) : Rn d W w w' L ml ret E ((pc, i, len) :: r) rl st s P :=
  n_br hf hc (fun h => g.1 (by
    intro hp
    rw [decide_eq_true hp] at h
    cases h)) (fun h => g.2 (by
    by_cases hp : p
    · exact hp
    · rw [decide_eq_false hp] at h
      cases h))
theorem n_go {t : Nat} (hf : xIt L ml ret false E pc i len r = xBr xc_go t) (g : Rn d W w w' L ml ret E (E.drop t) rl st s P) : Rn d W w w' L ml ret E ((pc, i, len) :: r) rl st s P :=
  n_jump hf (fun hh loc cs sl => rfl) g
theorem n_ret0 (hf : xIt L ml ret false E pc i len r = xRet0) (hp : P none s) : Rn d W w w L ml ret E ((pc, i, len) :: r) rl [] s P := n_end hf (fun _ _ _ _ => rfl) hp
theorem n_retI {v : Int32} (hf : xIt L ml ret false E pc i len r = xRetI) (hp : P (some (.int v)) s) : Rn d W w w L ml ret E ((pc, i, len) :: r) rl [.int v] s P := n_end hf (fun _ _ _ _ => rfl) hp
theorem n_retZ {v : Int32} (hf : xIt L ml ret false E pc i len r = xRetZ) (hv : (v == 0 || v == 1) = true) (hp : P (some (.int v)) s) : Rn d W w w L ml ret E ((pc, i, len) :: r) rl [.int v] s P := n_end hf (fun _ _ _ _ => by simp only [xRetZ, hv]) hp
theorem n_sw {lo hi dflt : Int} {offs : Array Int} {x : Int32} (h : ∃ t, (if x.toInt < lo ∨ hi < x.toInt then xgt E pc dflt else match offs.toList[(x.toInt - lo).toNat]? with
    | some off => xgt E pc off
    | none => none) = some t ∧ Rn d W w w' L ml ret E (E.drop t) rl st s P) : Rn d W w w' L ml ret E ((pc, .tableswitch dflt lo hi offs, len) :: r) rl (.int x :: st) s P := by
  obtain ⟨t, h1, h2⟩ := h
  refine n_jump (t := t) (f := xTs lo hi offs.toList dflt (xgt E pc)) rfl (fun hh loc cs sl => ?_) h2
  simp only [xTs]
  split at h1
  · rename_i hx
    rw [if_pos hx]
    simp only [h1]
  · rename_i hx
    rw [if_neg hx]
    split at h1
    · rename_i off ho
      simp only [ho, h1]
    · cases h1
/-! fields -/
/-- what stands there, whatever the heap -/
def hVal (w : wW) (s : sW) (a ci k : Nat) (v : Value) : Prop := ∀ hh, INV hh → wsQ w hh s → ∃ fs, hh[a]? = some (.inr (ci, fs)) ∧ fs[k]? = some v
theorem n_get {a ci k : Nat} {v : Value} (hf : xIt L ml ret false E pc i len r = xGet ci k) (hv : hVal w s a ci k v) (g : Rn d W w w' L ml ret E r rl (v :: st) s P) : Rn d W w w' L ml ret E ((pc, i, len) :: r) rl (.ref a :: st) s P := by
  refine n_step hf (fun l => l) (fun _ h => h) (fun hh loc cs sl hI hw _ => ?_) g
  obtain ⟨fs, f1, f2⟩ := hv hh hI hw
  exact rget f1 f2
def cOK (a : Nat) : Bool := Nat.blt a 213 && !(Nat.beq (oc a) 99)
theorem hv_R {a k b : Nat} (ha : cOK a = true) (hk : (fk a)[k]? = some (.inr (.inl [b]))) : hVal w s a (oc a) k (.ref b) := by
  intro hh hI _
  obtain ⟨fs, v, f1, f2, -, c, rfl, hc⟩ := fl_of hI ha hk
  rw [List.mem_singleton.mp hc] at f2
  exact ⟨fs, f1, f2⟩
theorem hv_f {a k : Nat} {v : Value} {K : cK} (ha : cOK a = true) (hk : (fk a)[k]? = some K) (h : ∀ hh, INV hh → wsQ w hh s → fld hh a k = some v) : hVal w s a (oc a) k v := by
  intro hh hI hw
  obtain ⟨fs, u, f1, f2, f3, -⟩ := fl_of hI ha hk
  rw [h hh hI hw] at f3
  cases f3
  exact ⟨fs, f1, f2⟩
theorem hv_C {a k b n : Nat} {K : cK} (ha : cOK a = true) (hk : (fk a)[k]? = some K) (hn : w.2.2[n]? = some (a, k, b)) : hVal w s a (oc a) k (.ref b) := hv_f ha hk (fun hh _ hw => hw.2 _ (List.mem_of_getElem? hn))
theorem n_getI {a k : Nat} {lo hi : Int} (hf : xIt L ml ret false E pc i len r = xGet (oc a) k) (ha : cOK a = true) (hk : (fk a)[k]? = some (.inl (lo, hi))) (g : ∀ x : Int32, lo ≤ x.toInt → x.toInt ≤ hi → Rn d W w w' L ml ret E r rl (.int x :: st) s P) : Rn d W w w' L ml ret E ((pc, i, len) :: r) rl (.ref a :: st) s P := by
  refine n_gen hf (fun hh hI hw => ?_)
  obtain ⟨fs, v, f1, f2, -, x, rfl, x1, x2⟩ := fl_of hI ha hk
  exact ⟨hh, 0, 0, w, s, .int x :: st, CST_rf hI, hw, g x x1 x2, fun loc cs sl => rget f1 f2⟩
/-- a field is written: what it does to what is watched -/
theorem n_put {a ci k t : Nat} {v : Value} {K : cK} {w1 : wW} {s1 : sW} (hf : xIt L ml ret false E pc i len r = xPut ci k t) (ha : cOK a = true) (hc : oc a = ci) (hk : (fk a)[k]? = some K) (hv : qvK K v) (ht : xfT t v = true) (h6 : (Nat.beq ci 6 && Nat.ble k 1) = false) (hW : wmem (wc a, k) W = true) (hz : (200, 14) ∈ W ∨ (¬ (oc a = 4 ∧ k = 14)) ∨ ¬ v = .int 0) (hs : ∀ hh hh', (∀ b q, ¬ (b = a ∧ q = k) → fld hh' b q = fld hh b q) → fld hh' a k = some v → wsQ w hh s → wsQ w1 hh' s1) (g : Rn d W w1 w' L ml ret E r rl st s1 P) : Rn d W w w' L ml ret E ((pc, i, len) :: r) rl (v :: .ref a :: st) s P := by
  refine n_gen hf (fun hh hI hw => ?_)
  obtain ⟨fs, u, f1, f2, -, -⟩ := fl_of hI ha hk
  have ha' := ha
  unfold cOK at ha'
  rw [Bool.and_eq_true] at ha'
  have h2 : ¬ oc a = 99 := fun w => by
    have := ha'.2
    rw [w] at this
    cases this
  have h6' : ¬ (oc a = 6 ∧ k ≤ 1) := fun w => by
    rw [← hc, w.1, Nat.ble_eq_true_of_le w.2] at h6
    cases h6
  have hp := put_gen (W := W) hI (Nat.le_of_ble_eq_true ha'.1) h2 f1 hk hv h6' (wmem_ok hW) hz
  have hal : a < hh.length := (List.getElem?_eq_some_iff.mp f1).1
  have hkl : k < fs.length := (List.getElem?_eq_some_iff.mp f2).1
  refine ⟨_, 0, 0, w1, s1, st, hp, hs hh _ (fun b q hb => ?_) ?_ hw, g, fun loc cs sl => ?_⟩
  · unfold fld
    by_cases eb : b = a
    · subst eb
      rw [List.getElem?_set_self hal, f1]
      show (fs.set k v)[q]? = fs[q]?
      rw [List.getElem?_set_ne (fun e => hb ⟨rfl, e.symm⟩)]
    · rw [List.getElem?_set_ne (Ne.symm eb)]
  · unfold fld
    rw [List.getElem?_set_self hal]
    exact List.getElem?_set_self hkl
  · rw [← hc]
    exact rput f1 (Nat.ble_eq_true_of_le hkl) ht
/-- a pair that is not watched -/
def nwL (a k : Nat) : List (Nat × Nat × Nat) → Bool
  | [] => true
  | p :: l => !(Nat.beq p.1 a && Nat.beq p.2.1 k) && nwL a k l
theorem nwL_ok {a k : Nat} {p : Nat × Nat × Nat} : ∀ {l : List (Nat × Nat × Nat)}, nwL a k l = true → p ∈ l → ¬ (p.1 = a ∧ p.2.1 = k)
  | [], _, h => absurd h List.not_mem_nil
  | q :: l, h, hp => by
    unfold nwL at h
    rw [Bool.and_eq_true] at h
    rcases List.mem_cons.mp hp with rfl | hp
    · intro w
      have := h.1
      rw [w.1, w.2, Nat.beq_refl, Nat.beq_refl] at this
      cases this
    · exact nwL_ok h.2 hp
def bne2 (a k b q : Nat) : Bool := !(Nat.beq b a && Nat.beq q k)
theorem bne2_ok {a k b q : Nat} (h : bne2 a k b q = true) : ¬ (b = a ∧ q = k) := fun w => by
  unfold bne2 at h
  rw [w.1, w.2, Nat.beq_refl, Nat.beq_refl] at h
  cases h
/-- not watched at all -/
theorem ws_no {a k : Nat} {v : Value} (h : (bne2 a k w.1.1 w.1.2 && (bne2 a k w.2.1 10 && (bne2 a k w.2.1 14 && (bne2 a k (w.2.1 + 34) 2 && (bne2 a k 1 2 && (bne2 a k (42 - w.2.1) 10 && nwL a k w.2.2)))))) = true) : ∀ hh hh', (∀ b q, ¬ (b = a ∧ q = k) → fld hh' b q = fld hh b q) → fld hh' a k = some v → wsQ w hh s → wsQ w hh' s := by
  intro hh hh' e1 _ hs
  rw [Bool.and_eq_true, Bool.and_eq_true, Bool.and_eq_true, Bool.and_eq_true, Bool.and_eq_true, Bool.and_eq_true] at h
  obtain ⟨h1, h2, h3, h4, h5, h6, h7⟩ := h
  obtain ⟨⟨s1, s2, s3, s4, s5, x6, s6, s7⟩, s8⟩ := hs
  exact ⟨⟨(e1 _ _ (bne2_ok h1)).trans s1, (e1 _ _ (bne2_ok h2)).trans s2, (e1 _ _ (bne2_ok h3)).trans s3, (e1 _ _ (bne2_ok h4)).trans s4, (e1 _ _ (bne2_ok h5)).trans s5, x6, (e1 _ _ (bne2_ok h6)).trans s6, s7⟩, fun p hp => (e1 _ _ (nwL_ok h7 hp)).trans (s8 p hp)⟩
theorem ws_at {x : Int32} (h : (bne2 w.1.1 w.1.2 w.2.1 10 && (bne2 w.1.1 w.1.2 w.2.1 14 && (bne2 w.1.1 w.1.2 (w.2.1 + 34) 2 && (bne2 w.1.1 w.1.2 1 2 && (bne2 w.1.1 w.1.2 (42 - w.2.1) 10 && nwL w.1.1 w.1.2 w.2.2))))) = true) : ∀ hh hh', (∀ b q, ¬ (b = w.1.1 ∧ q = w.1.2) → fld hh' b q = fld hh b q) → fld hh' w.1.1 w.1.2 = some (.int x) → wsQ w hh s → wsQ w hh' (x, s.2) := by
  intro hh hh' e1 e2 hs
  rw [Bool.and_eq_true, Bool.and_eq_true, Bool.and_eq_true, Bool.and_eq_true, Bool.and_eq_true] at h
  obtain ⟨h2, h3, h4, h5, h6, h7⟩ := h
  obtain ⟨⟨s1, s2, s3, s4, s5, x6, s6, s7⟩, s8⟩ := hs
  exact ⟨⟨e2, (e1 _ _ (bne2_ok h2)).trans s2, (e1 _ _ (bne2_ok h3)).trans s3, (e1 _ _ (bne2_ok h4)).trans s4, (e1 _ _ (bne2_ok h5)).trans s5, x6, (e1 _ _ (bne2_ok h6)).trans s6, s7⟩, fun p hp => (e1 _ _ (nwL_ok h7 hp)).trans (s8 p hp)⟩
theorem ws_kp {x : Int32} (h : (bne2 w.2.1 10 w.1.1 w.1.2 && (bne2 w.2.1 10 (w.2.1 + 34) 2 && (bne2 w.2.1 10 1 2 && (bne2 w.2.1 10 (42 - w.2.1) 10 && nwL w.2.1 10 w.2.2)))) = true) : ∀ hh hh', (∀ b q, ¬ (b = w.2.1 ∧ q = 10) → fld hh' b q = fld hh b q) → fld hh' w.2.1 10 = some (.int x) → wsQ w hh s → wsQ w hh' (s.1, x, s.2.2) := by
  intro hh hh' e1 e2 hs
  rw [Bool.and_eq_true, Bool.and_eq_true, Bool.and_eq_true, Bool.and_eq_true] at h
  obtain ⟨h1, h4, h5, h6, h7⟩ := h
  obtain ⟨⟨s1, s2, s3, s4, s5, x6, s6, s7⟩, s8⟩ := hs
  exact ⟨⟨(e1 _ _ (bne2_ok h1)).trans s1, e2, (e1 _ _ (fun w => absurd w.2 (by decide))).trans s3, (e1 _ _ (bne2_ok h4)).trans s4, (e1 _ _ (bne2_ok h5)).trans s5, x6, (e1 _ _ (bne2_ok h6)).trans s6, s7⟩, fun p hp => (e1 _ _ (nwL_ok h7 hp)).trans (s8 p hp)⟩
theorem ws_fl {x : Int32} (h : (bne2 w.2.1 14 w.1.1 w.1.2 && (bne2 w.2.1 14 (w.2.1 + 34) 2 && (bne2 w.2.1 14 1 2 && nwL w.2.1 14 w.2.2))) = true) : ∀ hh hh', (∀ b q, ¬ (b = w.2.1 ∧ q = 14) → fld hh' b q = fld hh b q) → fld hh' w.2.1 14 = some (.int x) → wsQ w hh s → wsQ w hh' (s.1, s.2.1, x, s.2.2.2) := by
  intro hh hh' e1 e2 hs
  rw [Bool.and_eq_true, Bool.and_eq_true, Bool.and_eq_true] at h
  obtain ⟨h1, h4, h5, h7⟩ := h
  obtain ⟨⟨s1, s2, s3, s4, s5, x6, s6, s7⟩, s8⟩ := hs
  exact ⟨⟨(e1 _ _ (bne2_ok h1)).trans s1, (e1 _ _ (fun w => absurd w.2 (by decide))).trans s2, e2, (e1 _ _ (bne2_ok h4)).trans s4, (e1 _ _ (bne2_ok h5)).trans s5, x6, (e1 _ _ (fun w => absurd w.2 (by decide))).trans s6, s7⟩, fun p hp => (e1 _ _ (nwL_ok h7 hp)).trans (s8 p hp)⟩
/-- a reference is known from here on -/
theorem ws_cf {a k b : Nat} (h : (bne2 a k w.1.1 w.1.2 && (bne2 a k w.2.1 10 && (bne2 a k w.2.1 14 && (bne2 a k (w.2.1 + 34) 2 && (bne2 a k 1 2 && (bne2 a k (42 - w.2.1) 10 && nwL a k w.2.2)))))) = true) : ∀ hh hh', (∀ b q, ¬ (b = a ∧ q = k) → fld hh' b q = fld hh b q) → fld hh' a k = some (.ref b) → wsQ w hh s → wsQ (w.1, w.2.1, (a, k, b) :: w.2.2) hh' s := by
  intro hh hh' e1 e2 hs
  obtain ⟨q1, q2⟩ := ws_no h hh hh' e1 e2 hs
  refine ⟨q1, fun p hp => ?_⟩
  rcases List.mem_cons.mp hp with rfl | hp
  · exact e2
  · exact q2 p hp
/-! calls -/
def crc (ci : Option Nat) (vs : List Value) : Bool := match ci with
  | none => true
  | some k => match vs with
    | .ref a :: _ => cOK a && Nat.beq (oc a) k
    | _ => false
theorem crc_ok {ci : Option Nat} {vs : List Value} {hh : xH} (hI : INV hh) (h : crc ci vs = true) : xrc ci vs hh = true := by
  unfold crc at h
  unfold xrc
  split at h
  · rfl
  · split at h
    · rw [Bool.and_eq_true] at h
      obtain ⟨h1, h2⟩ := h
      unfold cOK at h1
      rw [Bool.and_eq_true] at h1
      rename_i a _
      have h3 : ¬ oc a = 99 := fun w => by
        have := h1.2
        rw [w] at this
        cases this
      obtain ⟨fs, e1, -⟩ := hI.1 a (Nat.le_of_ble_eq_true h1.1) h3
      dsimp only
      rw [e1]
      exact h2
    · cases h
theorem xCall_of {vs st' : List Value} {j n : Nat} {ci : Option Nat} {hh hh' : xH} {v : Option Value} {cs1 sl1 : Nat} (hI : INV hh) (hst : st = vs.reverse ++ st') (hn : (Nat.beq vs.length n && (Nat.ble (xcs st') 8 && crc ci vs)) = true) (hy : yex d j vs hh = some (v, hh', cs1, sl1)) (loc : cLoc) (cs sl : Nat) : xCall j n ci (yex d) (loc, st, hh, cs, sl) = some (.inl (none, (loc, v.toList ++ st', hh', cs + cs1, sl + sl1))) := by
  rw [Bool.and_eq_true, Bool.and_eq_true] at hn
  have hn1 := Nat.eq_of_beq_eq_true hn.1
  have e1 : st.take n = vs.reverse := by rw [hst, ← hn1, ← List.length_reverse, List.take_left']; rfl
  have e2 : st.drop n = st' := by rw [hst, ← hn1, ← List.length_reverse, List.drop_left']; rfl
  have e3 : Nat.ble n st.length = true := Nat.ble_eq_true_of_le (by rw [hst, List.length_append, List.length_reverse]; omega)
  simp only [xCall, e1, e2, e3, List.reverse_reverse, hn.2.1, crc_ok hI hn.2.2, hy, Bool.and_self]
theorem n_tt (vs st' : List Value) {W1 : List (Nat × Nat)} {w1 : wW} {j n : Nat} {ci : Option Nat} (hf : xIt L ml ret false E pc i len r = xCall j n ci) (hst : st = vs.reverse ++ st') (hn : (Nat.beq vs.length n && (Nat.ble (xcs st') 8 && crc ci vs)) = true) (hW : wsub W1 W = true) (g : Tt d W1 w w1 j vs s (fun v s1 => Rn d W w1 w' L ml ret E r rl (v.toList ++ st') s1 P)) : Rn d W w w' L ml ret E ((pc, i, len) :: r) rl st s P := by
  refine n_gen hf (fun hh hI hw => ?_)
  obtain ⟨v, h', cs1, sl1, s1, g1, g2, g3, g4⟩ := g hh hI hw
  exact ⟨h', cs1, sl1, w1, s1, _, CST_mo g3 (fun q hq => wsub_ok hW hq), g2, g1, xCall_of hI hst hn g4⟩
theorem n_ctr (vs st' : List Value) {q : cSg} {j n : Nat} {ci : Option Nat} (hf : xIt L ml ret false E pc i len r = xCall j n ci) (hst : st = vs.reverse ++ st') (hn : (Nat.beq vs.length n && (Nat.ble (xcs st') 8 && crc ci vs)) = true) (hc : CTR (yex d) j q) (ha : aOK q.1 vs) (hW : wsub q.2.2 W = true) (hw : wok q.2.2 w = true) (g : ∀ v s1, rOK q.2.1 v → kpS q.2.2 w s s1 → Rn d W w w' L ml ret E r rl (v.toList ++ st') s1 P) : Rn d W w w' L ml ret E ((pc, i, len) :: r) rl st s P := by
  refine n_gen hf (fun hh hI hs => ?_)
  obtain ⟨v, h', cs1, sl1, c1, c2, c3⟩ := hc hh vs hI ha
  obtain ⟨s1, q1, q2⟩ := WS_fr c3 hw hs
  exact ⟨h', cs1, sl1, w, s1, _, CST_mo c3 (fun q hq => wsub_ok hW hq), q1, g v s1 c2 q2, xCall_of hI hst hn c1⟩
/-- Row.get: what is there, where there is something -/
theorem n_row (x : Int32) (st' : List Value) {a n : Nat} {ci : Option Nat} {d' : Nat} (hd : d = d' + 1) (hf : xIt L ml ret false E pc i len r = xCall 76 n ci) (hst : st = .int x :: .ref a :: st') (hn : (Nat.beq 2 n && (Nat.ble (xcs st') 8 && crc ci [.ref a, .int x])) = true) (ha : cmem a rowL = true) (g : ∀ v : Int32, ((ckR a).1 ≤ v.toInt ∧ v.toInt ≤ (ckR a).2) → (¬ v.toInt = 0 → 0 ≤ x.toInt ∧ x.toInt < (lim a : Int)) → (cod a = true → x.toInt % 2 = 0 → v.toInt < 2147483647) → Rn d W w w' L ml ret E r rl (.int v :: st') s P) : Rn d W w w' L ml ret E ((pc, i, len) :: r) rl st s P := by
  subst hd
  refine n_gen hf (fun hh hI hs => ?_)
  have hr := cmem_ok ha
  obtain ⟨v, e, hv⟩ := y_76 (d := d') (x := x) hI hr
  refine ⟨hh, 0, 0, w, s, _, CST_rf hI, hs, g v ?_ ?_ ?_, xCall_of hI (vs := [.ref a, .int x]) hst hn e⟩
  · rcases hv with rfl | ⟨c, n, f, q1, q2, q3, rfl⟩
    · have := ck0 a hr
      rw [i0]
      exact this
    · obtain ⟨c', n', f', z, -, -, p3, -, -, -, p7⟩ := row_of hI hr
      rw [q1] at p3
      cases p3
      exact (p7 _ (by omega)).1
  · intro hz
    rcases hv with rfl | ⟨c, n, f, q1, q2, q3, rfl⟩
    · exact absurd i0 hz
    · obtain ⟨c', n', f', z, -, -, p3, -, p5, -, -⟩ := row_of hI hr
      rw [q1] at p3
      cases p3
      omega
  · intro hc he
    rcases hv with rfl | ⟨c, n, f, q1, q2, q3, rfl⟩
    · rw [i0]
      decide
    · obtain ⟨c', n', f', z, -, -, p3, -, -, -, p7⟩ := row_of hI hr
      rw [q1] at p3
      cases p3
      exact (p7 _ (by omega)).2 hc (by omega)
end RN
/-- a method's call -/
theorem tt_of {d i ml : Nat} {W : List (Nat × Nat)} {w w' : wW} {L : xLD} {vs : List Value} {s : sW} {P : Option Value → sW → Prop} {M : xM} {E : xCd} {ret : Option FieldType} (hM : xsg i = some M) (hF : xpr i = some (xmk L ml ret false E E)) (hl : Nat.ble (lg_sl vs).length M.2.2.1 = true) (g : Rn d W w w' L ml ret E E (yin ml vs) [] s P) : Tt (d + 1) W w w' i vs s P := by
  intro hh hI hw
  obtain ⟨n, v, h', cs, sl, s', h1, h2, h3, h4⟩ := g hh hI hw
  refine ⟨v, h', cs, sl, s', h1, h2, h3, yex_of (k := n) hM hF hl ?_⟩
  have := h4 (lv_args 0 vs) 0 0 yL_entry
  rw [Nat.zero_add, Nat.zero_add] at this
  exact this

/-- more is known ahead, and stays -/
def x3 (W1 : List (Nat × Nat)) (c1 : List (Nat × Nat × Nat)) : List (Nat × Nat × Nat) → Bool
  | [] => true
  | p :: c => (m3 p c1 || (Nat.blt p.1 213 && !(wmem (wc p.1, p.2.1) W1))) && x3 W1 c1 c
theorem x3_ok {W1 : List (Nat × Nat)} {c1 : List (Nat × Nat × Nat)} {p : Nat × Nat × Nat} : ∀ {c : List (Nat × Nat × Nat)}, x3 W1 c1 c = true → p ∈ c → p ∈ c1 ∨ (p.1 < 213 ∧ ¬ (wc p.1, p.2.1) ∈ W1)
  | [], _, h => absurd h List.not_mem_nil
  | q :: c, h, hp => by
    unfold x3 at h
    rw [Bool.and_eq_true, Bool.or_eq_true, Bool.and_eq_true] at h
    rcases List.mem_cons.mp hp with rfl | hp
    · rcases h.1 with h1 | h1
      · exact Or.inl (m3_ok h1)
      · refine Or.inr ⟨Nat.le_of_ble_eq_true h1.1, wmem_no ?_⟩
        have := h1.2
        cases hb : wmem (wc p.1, p.2.1) W1 with
        | false => rfl
        | true => rw [hb] at this; cases this
    · exact x3_ok h.2 hp
theorem Tt_wk {d : Nat} {W1 : List (Nat × Nat)} {a : Nat × Nat} {P : Nat} {c1 c c2 c' : List (Nat × Nat × Nat)} {j : Nat} {vs : List Value} {s : sW} {Q : Option Value → sW → Prop} (h : Tt d W1 (a, P, c1) (a, P, c2) j vs s Q) (h1 : s3 c c1 = true) (h2 : x3 W1 c2 c' = true) (h3 : s3 (c ++ c2) c' = true) : Tt d W1 (a, P, c) (a, P, c') j vs s Q := by
  intro hh hI hw
  obtain ⟨v, h', cs, sl, s', q1, q2, q3, q4⟩ := h hh hI (WS_wk (w := (a, P, c)) h1 hw)
  refine ⟨v, h', cs, sl, s', q1, ⟨q2.1, fun p hp => ?_⟩, q3, q4⟩
  rcases x3_ok h2 hp with hp' | hp'
  · exact q2.2 p hp'
  · rcases List.mem_append.mp (s3_ok h3 hp) with h5 | h5
    · exact (q3.2.1.2 _ _ hp'.1 hp'.2).trans (hw.2 p h5)
    · exact q2.2 p h5
theorem i_m16 (z : Int) : (z.bmod (2 ^ 32)) % 16 = z % 16 := by
  rw [Int.bmod_def, show ((2 ^ 32 : Nat) : Int) = 4294967296 by decide]
  split <;> omega
theorem i_addm {x y : Int32} {a b : Int} (hx : x.toInt = a) (hy : y.toInt = b) : (x + y).toInt % 16 = (a + b) % 16 := by
  rw [Int32.toInt_add, hx, hy]
  exact i_m16 _
theorem i_mulm {x y : Int32} {a b : Int} (hx : x.toInt = a) (hy : y.toInt = b) : (x * y).toInt % 16 = (a * b) % 16 := by
  rw [Int32.toInt_mul, hx, hy]
  exact i_m16 _
/-- Row.add, of code -/
theorem u_78 {d : Nat} {w : wW} {sa sk sf sc sz v : Int32} (hw : wok [(101, 1), (101, 2)] w = true) (hn : wmem (wc w.1.1, w.1.2) [(101, 1), (101, 2)] = false) (hv : sc.toInt < 24000 → sc.toInt % 2 = 0 → v.toInt < 2147483647) : Tt (d + 3) [(101, 1), (101, 2)] w w 78 [.ref (w.2.1 + 34), .int v] (sa, sk, sf, sc, sz) (fun r s1 => r = none ∧ s1 = (sa, sk, sf, (if sc < 24000 then sc + 1 else sc), sz)) := by
  intro hh hI hs
  have hP : w.2.1 = 3 ∨ w.2.1 = 39 := by
    unfold wok at hw
    rw [Bool.and_eq_true, Bool.and_eq_true] at hw
    exact wgd_P hw.1.1
  have hr : w.2.1 + 34 ∈ rowL ∧ wc (w.2.1 + 34) = 101 ∧ lim (w.2.1 + 34) = 24000 ∧ ckR (w.2.1 + 34) = (-2147483648, 2147483647) := by
    rcases hP with e | e <;> rw [e] <;> exact ⟨cmem_ok (by decide +kernel), by decide +kernel, by decide +kernel, by decide +kernel⟩
  obtain ⟨h', cs, sl, y1, y2, y3⟩ := y_78 (d := d) (v := v) hI hr.1 hs.1.2.2.2.1 (by rw [hr.2.2.2]; exact ⟨v.le_toInt, Int.le_of_lt_add_one v.toInt_lt⟩) (fun _ e => hv (by rw [hr.2.2.1] at e; exact e))
  rw [hr.2.1] at y2
  rw [hr.2.2.1] at y3
  obtain ⟨⟨a1, k1, f1, c1, z1⟩, q1, q2⟩ := WS_fr y2 hw hs
  refine ⟨none, h', cs, sl, _, ⟨rfl, ?_⟩, q1, y2, y1⟩
  obtain ⟨k1, k2, k3, -, -, k6, -⟩ := q2
  have e1 := k1 (wmem_no hn)
  have e3 := k3 (wmem_no rfl)
  have e6 := k6 (wmem_no rfl)
  have e5 := q1.1.2.2.2.1
  rw [y3] at e5
  have e5 := Value.int.inj (Option.some.inj e5)
  dsimp only at e1 k2 e3 e6 e5
  rw [e1, k2, e3, e6, ← e5]
  rfl
theorem i_dv {x y : Int32} {a c : Int} (hx : x.toInt = a) (hy : y.toInt = c) (hc : 0 < c) (h0 : 0 ≤ a) : (x / y).toInt = a / c := by
  rw [Int32.toInt_div, hx, hy, Int.tdiv_eq_ediv_of_nonneg h0]
  have a1 : 0 ≤ a / c := Int.ediv_nonneg h0 (by omega)
  have a2 : a / c ≤ a := Int.ediv_le_self _ h0
  have := x.toInt_lt
  exact i_bm (by omega)
/-- Told.use -/
theorem u_121 {d d0 : Nat} (hd : d = d0 + 4) {P T : Nat} {a : Nat × Nat} {R : Nat} {c c' : List (Nat × Nat × Nat)} {s : sW} (hP : (cmem P [3, 39] && cmem T [4, 40, 86]) = true) (hs : s3 c c' = true) (hn : (bne2 83 1 a.1 a.2 && (bne2 83 2 a.1 a.2 && ((Nat.beq R 3 || Nat.beq R 39) && (nwL 83 1 c' && nwL 83 2 c')))) = true) : Tt d [(10, 1), (10, 2)] (a, R, c) (a, R, (83, 1, P) :: (83, 2, T) :: c') 121 [.ref 83, .ref P, .ref T] s (fun v s1 => v = none ∧ s1 = s) := by
  subst hd
  rw [Bool.and_eq_true] at hP
  rw [Bool.and_eq_true, Bool.and_eq_true, Bool.and_eq_true, Bool.and_eq_true] at hn
  obtain ⟨n1, n2, n3, n4, n5⟩ := hn
  have hR : R = 3 ∨ R = 39 := by
    rw [Bool.or_eq_true] at n3
    rcases n3 with h | h
    · exact Or.inl (Nat.eq_of_beq_eq_true h)
    · exact Or.inr (Nat.eq_of_beq_eq_true h)
  have b1 : (bne2 83 1 a.1 a.2 && (bne2 83 1 R 10 && (bne2 83 1 R 14 && (bne2 83 1 (R + 34) 2 && (bne2 83 1 1 2 && (bne2 83 1 (42 - R) 10 && nwL 83 1 c')))))) = true := by
    rw [n1, n4]
    rcases hR with rfl | rfl <;> rfl
  have b2 : (bne2 83 2 a.1 a.2 && (bne2 83 2 R 10 && (bne2 83 2 R 14 && (bne2 83 2 (R + 34) 2 && (bne2 83 2 1 2 && (bne2 83 2 (42 - R) 10 && nwL 83 2 ((83, 1, P) :: c'))))))) = true := by
    unfold nwL
    rw [n2, n5]
    rcases hR with rfl | rfl <;> rfl
  refine tt_of (E := xE_121) (L := xL_10) (ml := 3) (ret := none) rfl rfl rfl ?_
  refine n_wk (w := (a, R, c)) hs ?_
  refine n_ld rfl rfl rfl ?_
  refine n_ld rfl rfl rfl ?_
  refine n_put (a := 83) (w1 := (a, R, (83, 1, P) :: c')) (s1 := s) rfl rfl rfl rfl ⟨_, rfl, cmem_ok hP.1⟩ rfl rfl rfl (Or.inr (Or.inl (by decide +kernel))) (ws_cf (w := (a, R, c')) (a := 83) (k := 1) (b := P) b1) ?_
  refine n_ld rfl rfl rfl ?_
  refine n_ld rfl rfl rfl ?_
  refine n_put (a := 83) (w1 := (a, R, (83, 2, T) :: (83, 1, P) :: c')) (s1 := s) rfl rfl rfl rfl ⟨_, rfl, cmem_ok hP.2⟩ rfl rfl rfl (Or.inr (Or.inl (by decide +kernel))) (ws_cf (w := (a, R, (83, 1, P) :: c')) (a := 83) (k := 2) (b := T) b2) ?_
  intro hh hI hw
  have hw' : wsQ (a, R, (83, 1, P) :: (83, 2, T) :: c') hh s := ⟨hw.1, fun p hp => hw.2 p (by
    rcases List.mem_cons.mp hp with rfl | hp
    · exact List.mem_cons_of_mem _ List.mem_cons_self
    · rcases List.mem_cons.mp hp with rfl | hp
      · exact List.mem_cons_self
      · exact List.mem_cons_of_mem _ (List.mem_cons_of_mem _ hp))⟩
  exact n_ret0 (P := fun v s1 => v = none ∧ s1 = s) rfl ⟨rfl, rfl⟩ hh hI hw'
/-- more may be written -/
theorem Tt.W {d : Nat} {W1 W2 : List (Nat × Nat)} {w w' : wW} {j : Nat} {vs : List Value} {s : sW} {P : Option Value → sW → Prop} (h : Tt d W1 w w' j vs s P) (hW : wsub W1 W2 = true) : Tt d W2 w w' j vs s P := by
  intro hh hI hw
  obtain ⟨v, h', cs, sl, s', h1, h2, h3, h4⟩ := h hh hI hw
  exact ⟨v, h', cs, sl, s', h1, h2, CST_mo h3 (fun q hq => wsub_ok hW hq), h4⟩
/-- Row.clear -/
theorem y_79g {d : Nat} {h : xH} {a : Nat} (hI : INV h) (ha : a ∈ rowL) : ∃ h', yex (d + 1) 79 [.ref a] h = some (none, h', 0, 0) ∧ CST [(wc a, 2)] h h' 0 0 ∧ fld h' a 2 = some (.int 0) := by
  obtain ⟨c, n, f, z, e1, -⟩ := row_of hI ha
  have h6 := rowL_6 a ha
  have hp := put_ok (v := .int 0) hI (fk_row a ha).2.2 (by omega) (show h[a]? = some (.inr (oc a, _)) by rw [h6]; exact e1) (fk_2 a ha) ⟨_, rfl, by rw [i0]; omega, by rw [i0]; omega⟩ (by omega) (by omega)
  rw [h6] at hp
  refine ⟨_, yex_of (k := 4) rfl rfl rfl ?_, hp, ?_⟩
  · refine xit_l (q := (none, (_, [.ref a], h, 0, 0))) rfl ?_
    refine xit_l (q := (none, (_, [.int 0, .ref a], h, 0, 0))) rfl ?_
    refine xit_l (rput (calls := yex d) (k := 2) (t := 0) e1 rfl rfl) ?_
    exact xit_r rfl
  · unfold fld
    rw [List.getElem?_set_self ((List.getElem?_eq_some_iff.mp e1).1)]
    rfl
