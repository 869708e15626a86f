/-! ===== the class: runs whose end may tell of references too (wip/p3/mkZm.py) ===== -/
def Zm (d : Nat) (W V : List (Nat × Nat)) (w : zW) (L : xLD) (ml : Nat) (ret : Option FieldType) (E l : xCd) (rl st : List Value) (s : zS) (P : Option Value → xH → zS → Prop) : Prop :=
  ∀ hh, INV hh → zQ w hh s → ∃ (n : Nat) (v : Option Value) (h' : xH) (cs' sl' : Nat) (s' : zS), P v h' s' ∧ zI h' s' ∧ CSY W V s s' hh h' cs' sl' ∧ ∀ (loc : cLoc) (cs sl : Nat), yL rl loc → xit (yex d) (xmk L ml ret false E E) n (some (.inl (xmk L ml ret false E l, (loc, st, hh, cs, sl)))) = some (.inr (v, h', cs + cs', sl + sl'))
/-- Q, and where the answer is 0: references -/
def zR (Q : Option Value → zS → Prop) (c : zW) : Option Value → xH → zS → Prop := fun v h s => Q v s ∧ (v = some (.int 0) → ∀ p ∈ c, fld h p.1 p.2.1 = some (.ref p.2.2))
/-- a call whose references are known where it answers 0 -/
def Zx (d : Nat) (U : List (Nat × Nat)) (c c' : zW) (j : Nat) (vs : List Value) (s : zS) (P : Option Value → zS → Prop) : Prop :=
  ∀ hh, INV hh → zQ c hh s → ∃ (v : Option Value) (h' : xH) (cs sl : Nat) (s' : zS), zR P c' v h' s' ∧ zI h' s' ∧ CSY U (wrt c j vs) s s' hh h' cs sl ∧ yex d j vs hh = some (v, h', cs, sl)
section ZZM
variable {d ml : Nat} {W V : List (Nat × Nat)} {w w' : zW} {L : xLD} {ret : Option FieldType} {E : xCd} {pc len : Nat} {i : Instr} {r : xCd} {rl st : List Value} {s : zS} {P : Option Value → xH → zS → Prop} {Q : Option Value → zS → Prop}
theorem zm_step {rl' st' : List Value} {f : xF} (hf : xIt L ml ret false E pc i len r = f) (F : cLoc → cLoc) (hF : ∀ loc, yL rl loc → yL rl' (F loc)) (h : ∀ (hh : xH) (loc : cLoc) (cs sl : Nat), INV hh → zQ w hh s → yL rl loc → f (yex d) (loc, st, hh, cs, sl) = some (.inl (none, (F loc, st', hh, cs, sl)))) (g : Zm d W V w L ml ret E r rl' st' s P) : Zm d W V w L ml ret E ((pc, i, len) :: r) rl st s P := by
  intro hh hI hw
  obtain ⟨n, v, h2, cs', sl', s', p1, p2, p3, p4⟩ := g hh hI hw
  refine ⟨n + 1, v, h2, cs', sl', s', p1, p2, p3, fun loc cs sl hl => ?_⟩
  show xit (yex d) _ (n + 1) (some (.inl ((pc, xIt L ml ret false E pc i len r) :: xmk L ml ret false E r, _))) = _
  rw [hf]
  exact xit_l (h hh loc cs sl hI hw hl) (p4 (F loc) cs sl (hF loc hl))
theorem zm_gen {f : xF} (hf : xIt L ml ret false E pc i len r = f) (h : ∀ hh, INV hh → zQ w hh s → ∃ (hh' : xH) (cs1 sl1 : Nat) (w1 : zW) (s1 : zS) (st1 : List Value), CSY W V s s1 hh hh' cs1 sl1 ∧ zQ w1 hh' s1 ∧ Zm d W V w1 L ml ret E r rl st1 s1 P ∧ ∀ (loc : cLoc) (cs sl : Nat), f (yex d) (loc, st, hh, cs, sl) = some (.inl (none, (loc, st1, hh', cs + cs1, sl + sl1)))) : Zm d W V w L ml ret E ((pc, i, len) :: r) rl st s P := by
  intro hh hI hw
  obtain ⟨hh', cs1, sl1, w1, s1, st1, c1, c2, g, c3⟩ := h hh hI hw
  obtain ⟨n, v, h2, cs', sl', s', p1, p2, p3, p4⟩ := g hh' c1.1.1 c2
  refine ⟨n + 1, v, h2, cs1 + cs', sl1 + sl', s', p1, p2, CSY_tr c1 p3, fun loc cs sl hl => ?_⟩
  show xit (yex d) _ (n + 1) (some (.inl ((pc, xIt L ml ret false E pc i len r) :: xmk L ml ret false E r, _))) = _
  rw [hf, ← Nat.add_assoc, ← Nat.add_assoc]
  exact xit_l (c3 loc cs sl) (p4 loc _ _ hl)
theorem zm_jump {st' : List Value} {t : Nat} {f : xF} (hf : xIt L ml ret false E pc i len r = f) (h : ∀ (hh : xH) (loc : cLoc) (cs sl : Nat), f (yex d) (loc, st, hh, cs, sl) = some (.inl (some t, (loc, st', hh, cs, sl)))) (g : Zm d W V w L ml ret E (E.drop t) rl st' s P) : Zm d W V w L ml ret E ((pc, i, len) :: r) rl st s P := by
  intro hh hI hw
  obtain ⟨n, v, h2, cs', sl', s', p1, p2, p3, p4⟩ := g hh hI hw
  refine ⟨n + 1, v, h2, cs', sl', s', p1, p2, p3, fun loc cs sl hl => ?_⟩
  show xit (yex d) _ (n + 1) (some (.inl ((pc, xIt L ml ret false E pc i len r) :: xmk L ml ret false E r, _))) = _
  rw [hf]
  refine xit_l (h hh loc cs sl) ?_
  have h3 := p4 loc cs sl hl
  rw [← xmk_drop] at h3
  exact h3
theorem zm_fg {l : xCd} (k : Nat) (g : Zm d W V w L ml ret E l (rl.set k .null) st s P) : Zm d W V w L ml ret E l rl st s P := by
  intro hh hI hw
  obtain ⟨n, v, h2, cs', sl', s', p1, p2, p3, p4⟩ := g hh hI hw
  exact ⟨n, v, h2, cs', sl', s', p1, p2, p3, fun loc cs sl hl => p4 loc cs sl (yL_fg hl)⟩
theorem zm_wk {c : zW} {l : xCd} (h : s3 w c = true) (g : Zm d W V c L ml ret E l rl st s P) : Zm d W V w L ml ret E l rl st s P := fun hh hI hw => g hh hI (zQ_wk h hw)
theorem zm_ld {k : Nat} {ok : Value → Bool} {v : Value} (hf : xIt L ml ret false E pc i len r = xLd k ok) (hk : rl[k]? = some v) (hv : (ynn v && ok v) = true) (g : Zm d W V w L ml ret E r rl (v :: st) s P) : Zm d W V w L ml ret E ((pc, i, len) :: r) rl st s P := by
  rw [Bool.and_eq_true] at hv
  refine zm_step hf (fun l => l) (fun _ h => h) (fun hh loc cs sl _ _ hl => ?_) g
  simp only [xLd, yL_ld hl hk hv.1, hv.2]
theorem zm_st (rl' : List Value) {k : Nat} {ok : Value → Bool} {v : Value} (hf : xIt L ml ret false E pc i len r = xSt k ok xf1) (hv : (ok v && ylj rl k) = true) (he : rl.set k v = rl') (g : Zm d W V w L ml ret E r rl' st s P) : Zm d W V w L ml ret E ((pc, i, len) :: r) rl (v :: st) s P := by
  rw [Bool.and_eq_true] at hv
  subst he
  refine zm_step hf (fun l => (k, v) :: xf1 k l) (fun _ h => yL_st h hv.2) (fun hh loc cs sl _ _ hl => ?_) g
  simp only [xSt, hv.1]
theorem zm_inc (rl' : List Value) {k : Nat} {n : Int} {x : Int32} (hf : xIt L ml ret false E pc i len r = xInc k n) (hk : rl[k]? = some (.int x)) (hv : ylj rl k = true) (he : rl.set k (.int (x + Int32.ofInt n)) = rl') (g : Zm d W V w L ml ret E r rl' st s P) : Zm d W V w L ml ret E ((pc, i, len) :: r) rl st s P := by
  subst he
  refine zm_step hf (fun l => (k, .int (x + Int32.ofInt n)) :: xf1 k l) (fun _ h => yL_st h hv) (fun hh loc cs sl _ _ hl => ?_) g
  simp only [xInc, yL_ld hl hk rfl]
theorem zm_c (st' : List Value) (op : List Value → Option (List Value)) (hf : xIt L ml ret false E pc i len r = xPure op) (ho : op st = some st') (g : Zm d W V w L ml ret E r rl st' s P) : Zm d W V w L ml ret E ((pc, i, len) :: r) rl st s P := by
  refine zm_step hf (fun l => l) (fun _ h => h) (fun hh loc cs sl _ _ hl => ?_) g
  simp only [xPure, ho]
theorem zm_br {c : List Value → Option (Bool × List Value)} {t : Nat} {b : Bool} {st' : List Value} (hf : xIt L ml ret false E pc i len r = xBr c t) (hc : c st = some (b, st')) (g1 : b = true → Zm d W V w L ml ret E (E.drop t) rl st' s P) (g2 : b = false → Zm d W V w L ml ret E r rl st' s P) : Zm d W V w L ml ret E ((pc, i, len) :: r) rl st s P := by
  cases b with
  | true => exact zm_jump hf (fun hh loc cs sl => by simp only [xBr, hc]) (g1 rfl)
  | false => exact zm_step hf (fun l => l) (fun _ h => h) (fun hh loc cs sl _ _ hl => by simp only [xBr, hc]) (g2 rfl)
theorem zm_brP {c : List Value → Option (Bool × List Value)} {t : Nat} {p : Prop} {dp : Decidable p} {st' : List Value} (hf : xIt L ml ret false E pc i len r = xBr c t) (hc : c st = some (@decide p dp, st')) (g : (p → Zm d W V w L ml ret E (E.drop t) rl st' s P) ∧ (¬ p → Zm d W V w L ml ret E r rl st' s P)) : Zm d W V w L ml ret E ((pc, i, len) :: r) rl st s P :=
  zm_br hf hc (fun h => g.1 (of_decide_eq_true h)) (fun h => g.2 (of_decide_eq_false h))
theorem zm_brN {c : List Value → Option (Bool × List Value)} {t : Nat} {p : Prop} {dp : Decidable p} {st' : List Value} (hf : xIt L ml ret false E pc i len r = xBr c t) (hc : c st = some (!@decide p dp, st')) (g : (¬ p → Zm d W V w L ml ret E (E.drop t) rl st' s P) ∧ (p → Zm d W V w L ml ret E r rl st' s P)) : Zm d W V w L ml ret E ((pc, i, len) :: r) rl st s P :=
  zm_br hf hc (fun h => g.1 (by
    intro hp
    rw [decide_eq_true hp] at h
    cases h)) (fun h => g.2 (by
    by_cases hp : p
    · exact hp
    · rw [decide_eq_false hp] at h
      cases h))
theorem zm_go {t : Nat} (hf : xIt L ml ret false E pc i len r = xBr xc_go t) (g : Zm d W V w L ml ret E (E.drop t) rl st s P) : Zm d W V w L ml ret E ((pc, i, len) :: r) rl st s P :=
  zm_jump hf (fun hh loc cs sl => rfl) g
theorem zm_get {a ci k : Nat} {v : Value} (hf : xIt L ml ret false E pc i len r = xGet ci k) (hv : zVal w s a ci k v) (g : Zm d W V w L ml ret E r rl (v :: st) s P) : Zm d W V w L ml ret E ((pc, i, len) :: r) rl (.ref a :: st) s P := by
  refine zm_step hf (fun l => l) (fun _ h => h) (fun hh loc cs sl hI hw _ => ?_) g
  obtain ⟨fs, f1, f2⟩ := hv hh hI hw
  exact rget f1 f2
theorem zm_putG {a ci k t : Nat} {v : Value} {K : cK} {w1 : zW} {s1 : zS} (hf : xIt L ml ret false E pc i len r = xPut ci k t) (ha : cOK a = true) (hc : oc a = ci) (hk : (fk a)[k]? = some K) (hv : qvK K v) (ht : xfT t v = true) (h6 : (Nat.beq ci 6 && Nat.ble k 1) = false) (hU : isRf a k = true → (a, k) ∈ W) (hs : ∀ hh hh', (∀ b q, ¬ (b = a ∧ q = k) → fld hh' b q = fld hh b q) → fld hh' a k = some v → (∀ b ∈ rowL, ∀ j, rv hh' b j = rv hh b j) → zQ w hh s → zQ w1 hh' s1) (hK : ∀ hh hh', (∀ b q, ¬ (b = a ∧ q = k) → fld hh' b q = fld hh b q) → fld hh' a k = some v → INV hh → zQ w hh s → KLh hh hh') (hRW : FVz V s s1) (g : Zm d W V w1 L ml ret E r rl st s1 P) : Zm d W V w L ml ret E ((pc, i, len) :: r) rl (v :: .ref a :: st) s P := by
  refine zm_gen hf (fun hh hI hw => ?_)
  obtain ⟨fs, u, f1, f2, -, -⟩ := fl_of hI ha hk
  have ha' := ha
  unfold cOK at ha'
  rw [Bool.and_eq_true] at ha'
  have h2 : ¬ oc a = 99 := fun w => by
    have := ha'.2
    rw [w] at this
    cases this
  have h6' : ¬ (oc a = 6 ∧ k ≤ 1) := fun w => by
    rw [← hc, w.1, Nat.ble_eq_true_of_le w.2] at h6
    cases h6
  have hp := put_gen (W := [(200, 14), (wc a, k)]) hI (Nat.le_of_ble_eq_true ha'.1) h2 f1 hk hv h6' (List.mem_cons_of_mem _ List.mem_cons_self) (Or.inl List.mem_cons_self)
  have hal : a < hh.length := (List.getElem?_eq_some_iff.mp f1).1
  have hkl : k < fs.length := (List.getElem?_eq_some_iff.mp f2).1
  have flo : ∀ b q, ¬ (b = a ∧ q = k) → fld (hh.set a (.inr (oc a, fs.set k v))) b q = fld hh b q := fun b q hb => by
    unfold fld
    by_cases eb : b = a
    · subst eb
      rw [List.getElem?_set_self hal, f1]
      show (fs.set k v)[q]? = fs[q]?
      rw [List.getElem?_set_ne (fun e => hb ⟨rfl, e.symm⟩)]
    · rw [List.getElem?_set_ne (Ne.symm eb)]
  have rve : ∀ b ∈ rowL, ∀ j, rv (hh.set a (.inr (oc a, fs.set k v))) b j = rv hh b j := fun b hb j => by
    unfold rv
    rw [rc_st hI f1 (fun e => h6' ⟨rowL_6 a e.1, by omega⟩) hb]
  have own : fld (hh.set a (.inr (oc a, fs.set k v))) a k = some v := by
    unfold fld
    rw [List.getElem?_set_self hal]
    exact List.getElem?_set_self hkl
  refine ⟨_, 0, 0, w1, s1, st, ⟨⟨hp.1, ⟨hp.2.1.1.1, fun b q hb hn => flo b q (fun e => hn ?_)⟩, hp.2.2.1, hp.2.2.2, fun b hb j _ => rve b (wk_row hb) j, fun b hb _ j => Or.inl (rve b hb j), hK hh _ flo own hI hw⟩, hRW⟩, hs hh _ flo own rve hw, g, fun loc cs sl => ?_⟩
  · rw [e.1, e.2]
    exact hU (by rw [← e.1, ← e.2]; exact hb)
  · rw [← hc]
    exact rput f1 (Nat.ble_eq_true_of_le hkl) ht
theorem zm_putI {a ci k t : Nat} {x : Int32} {lo hi : Int} (hf : xIt L ml ret false E pc i len r = xPut ci k t) (ha : cOK a = true) (hc : oc a = ci) (hk : (fk a)[k]? = some (.inl (lo, hi))) (hv : lo ≤ x.toInt ∧ x.toInt ≤ hi) (ht : xfT t (.int x) = true) (h6 : (Nat.beq ci 6 && Nat.ble k 1) = false) (hw : nwL a k w = true) (g : Zm d W V w L ml ret E r rl st (zf s a k x) P) (hkl : kwx a k x w s := by exact Or.inl (by decide)) (hrw : rfK a k V = true := by rfl) : Zm d W V w L ml ret E ((pc, i, len) :: r) rl (.int x :: .ref a :: st) s P := by
  refine zm_putG (v := .int x) hf ha hc hk ⟨x, rfl, hv.1, hv.2⟩ ht h6 (fun e => ?_) (fun hh hh' e1 e2 e3 hq => ⟨⟨fun b q hb => ?_, fun b hb j => ?_⟩, fun p hp => (e1 _ _ (nwL_ok hw hp)).trans (hq.2 p hp)⟩) (fun hh hh' e1 e2 hI hq => kl_put hkl e1 e2 hI hq) (FVz_f hrw) g
  · unfold isRf at e
    rw [hk, Bool.and_eq_true] at e
    cases e.2
  · by_cases e : b = a ∧ q = k
    · rw [e.1, e.2, e2]
      show _ = some (Value.int (if a = a ∧ k = k then x else s.1 a k))
      rw [if_pos ⟨rfl, rfl⟩]
    · rw [e1 b q e, hq.1.1 b q hb]
      show _ = some (Value.int (if b = a ∧ q = k then x else s.1 b q))
      rw [if_neg e]
  · rw [e3 b hb j]
    exact hq.1.2 b hb j
theorem zm_putR {a ci k t b : Nat} {S : List Nat} (hf : xIt L ml ret false E pc i len r = xPut ci k t) (ha : cOK a = true) (hc : oc a = ci) (hk : (fk a)[k]? = some (.inr (.inl S))) (hv : cmem b S = true) (ht : xfT t (.ref b) = true) (h6 : (Nat.beq ci 6 && Nat.ble k 1) = false) (hU : wmem (a, k) W = true) (hw : nwL a k w = true) (g : Zm d W V ((a, k, b) :: w) L ml ret E r rl st s P) (hkr : ¬ (a = 0 ∧ k = 9) ∨ ((b = 3 ∨ b = 39) ∧ 18 ≤ (s.1 b 10).toInt) := by exact Or.inl (by decide)) : Zm d W V w L ml ret E ((pc, i, len) :: r) rl (.ref b :: .ref a :: st) s P := by
  refine zm_putG (v := .ref b) hf ha hc hk ⟨b, rfl, cmem_ok hv⟩ ht h6 (fun _ => wmem_ok hU) (fun hh hh' e1 e2 e3 hq => ⟨⟨fun b' q hb => ?_, fun b' hb j => (e3 b' hb j).trans (hq.1.2 b' hb j)⟩, fun p hp => ?_⟩) (fun hh hh' e1 e2 hI hq => ?_) FVz_rf g
  · rw [e1 b' q (fun e => ?_)]
    · exact hq.1.1 b' q hb
    · rw [e.1, e.2] at hb
      unfold isIf at hb
      rw [hk, Bool.and_eq_true] at hb
      cases hb.2
  · rcases List.mem_cons.mp hp with rfl | hp
    · exact e2
    · exact (e1 _ _ (nwL_ok hw hp)).trans (hq.2 p hp)
  · have n1 : ¬ (a = 3 ∧ k = 10) := fun z => by
      rw [z.1, z.2, show (fk 3)[10]? = some (.inl (0, 2000000000)) by decide +kernel] at hk
      cases hk
    have n2 : ¬ (a = 39 ∧ k = 10) := fun z => by
      rw [z.1, z.2, show (fk 39)[10]? = some (.inl (0, 2000000000)) by decide +kernel] at hk
      cases hk
    have n3 : ¬ (a = 0 ∧ k = 11) := fun z => by
      rw [z.1, z.2, show (fk 0)[11]? = some (.inl (0, 1)) by decide +kernel] at hk
      cases hk
    rcases hkr with g | ⟨g1, g2⟩
    · exact KL_eq (e1 3 10 (fun z => n1 ⟨z.1.symm, z.2.symm⟩)) (e1 39 10 (fun z => n2 ⟨z.1.symm, z.2.symm⟩)) (e1 0 9 (fun z => g ⟨z.1.symm, z.2.symm⟩)) (e1 0 11 (fun z => n3 ⟨z.1.symm, z.2.symm⟩)) hI
    · by_cases g : a = 0 ∧ k = 9
      · refine ⟨fun Q hQ q => ?_, fun _ => Or.inr (fun Q' hQ' => ?_)⟩
        · obtain ⟨y, y1, y2⟩ := q
          exact ⟨y, (e1 Q 10 (fun z => absurd (z.2.trans g.2) (by decide))).trans y1, y2⟩
        · rw [← g.1, ← g.2, e2] at hQ'
          cases hQ'
          exact ⟨s.1 b 10, by rw [e1 b 10 (fun z => absurd (z.2.trans g.2) (by decide))]; exact hq.1.1 b 10 (kz_if g1), g2⟩
      · exact KL_eq (e1 3 10 (fun z => n1 ⟨z.1.symm, z.2.symm⟩)) (e1 39 10 (fun z => n2 ⟨z.1.symm, z.2.symm⟩)) (e1 0 9 (fun z => g ⟨z.1.symm, z.2.symm⟩)) (e1 0 11 (fun z => n3 ⟨z.1.symm, z.2.symm⟩)) hI
theorem zm_row (x : Int32) (st' : List Value) {a n : Nat} {ci : Option Nat} {d' : Nat} (hd : d = d' + 1) (hf : xIt L ml ret false E pc i len r = xCall 76 n ci) (hst : st = .int x :: .ref a :: st') (hn : (Nat.beq 2 n && (Nat.ble (xcs st') 8 && crc ci [.ref a, .int x])) = true) (ha : cmem a rowL = true) (g : Zm d W V w L ml ret E r rl (.int (zg s a x) :: st') s P) : Zm d W V w L ml ret E ((pc, i, len) :: r) rl st s P := by
  subst hd
  refine zm_gen hf (fun hh hI hs => ?_)
  have hr := cmem_ok ha
  have e := y_76z (d := d') (x := x) hI hr
  have ev : (if 0 ≤ x.toInt then rv hh a x.toInt.toNat else 0) = zg s a x := by
    unfold zg
    rw [hs.1.2 a hr]
  rw [ev] at e
  exact ⟨hh, 0, 0, w, s, _, CSY_rf hI, hs, g, xCall_of hI (vs := [.ref a, .int x]) hst hn e⟩
theorem zm_set (x v : Int32) (st' : List Value) {a n : Nat} {ci : Option Nat} {d' : Nat} (hd : d = d' + 2) (hf : xIt L ml ret false E pc i len r = xCall 77 n ci) (hst : st = .int v :: .int x :: .ref a :: st') (hn : (Nat.beq 3 n && (Nat.ble (xcs st') 8 && crc ci [.ref a, .int x, .int v])) = true) (ha : cmem a rowL = true) (hv : (ckR a).1 ≤ v.toInt ∧ v.toInt ≤ (ckR a).2) (hc : cod a = false) (hw : (w.all (fun p => isRf p.1 p.2.1 && !(wmem (p.1, p.2.1) []))) = true) (g : Zm d W V w L ml ret E r rl st' (zt s a x v) P) (hx : wkx a x := by exact Or.inl (by decide)) (hy : skS a v := by exact fun q => absurd q (by decide)) (hrw : rwK a V = true := by rfl) : Zm d W V w L ml ret E ((pc, i, len) :: r) rl st s P := by
  subst hd
  refine zm_gen hf (fun hh hI hs => ?_)
  have hr := cmem_ok ha
  obtain ⟨h', cs, sl, e1, e2, e3⟩ := y_77z (d := d') (x := x) (v := v) hI hr hv (fun q => by rw [hc] at q; cases q)
  obtain ⟨q1, q2⟩ := zI_set hI hr hs.1 e2 e3 hx hy
  exact ⟨h', cs, sl, w, _, st', ⟨CSX_mo q2 (fun _ w => absurd w List.not_mem_nil), FVz_t hrw⟩, zrf_ok q2 hw q1 hs, g, xCall_of hI (vs := [.ref a, .int x, .int v]) hst hn e1⟩
theorem zm_zt (vs st' : List Value) {c : zW} {j n : Nat} {ci : Option Nat} (hf : xIt L ml ret false E pc i len r = xCall j n ci) (hst : st = vs.reverse ++ st') (hn : (Nat.beq vs.length n && (Nat.ble (xcs st') 8 && crc ci vs)) = true) (hc : s3 w c = true) (hw : (w.all (fun p => isRf p.1 p.2.1 && !(wmem (p.1, p.2.1) []))) = true) (g : Zt d c j vs s (fun v s1 => Zm d W V w L ml ret E r rl (v.toList ++ st') s1 P)) (hrw : wsub (wrt c j vs) V = true := by rfl) : Zm d W V w L ml ret E ((pc, i, len) :: r) rl st s P := by
  refine zm_gen hf (fun hh hI hs => ?_)
  obtain ⟨v, h', cs1, sl1, s1, g1, g2, g3, g4⟩ := g hh hI (zQ_wk hc hs)
  exact ⟨h', cs1, sl1, w, s1, _, ⟨CSX_mo g3.1 (fun _ w => absurd w List.not_mem_nil), FVz_mo g3.2 (fun q hq => wsub_ok hrw hq)⟩, zrf_ok g3.1 hw g2 hs, g1, xCall_of hI hst hn g4⟩
theorem zm_zu (vs st' : List Value) {U : List (Nat × Nat)} {c c' w1 : zW} {j n : Nat} {ci : Option Nat} (hf : xIt L ml ret false E pc i len r = xCall j n ci) (hst : st = vs.reverse ++ st') (hn : (Nat.beq vs.length n && (Nat.ble (xcs st') 8 && crc ci vs)) = true) (hc : s3 w c = true) (hU : wsub U W = true) (hw : (w1.all (fun p => isRf p.1 p.2.1 && !(wmem (p.1, p.2.1) U))) = true) (hw1 : s3 w w1 = true) (g : Zu d U c c' j vs s (fun v s1 => Zm d W V (c' ++ w1) L ml ret E r rl (v.toList ++ st') s1 P)) (hrw : wsub (wrt c j vs) V = true := by rfl) : Zm d W V w L ml ret E ((pc, i, len) :: r) rl st s P := by
  refine zm_gen hf (fun hh hI hs => ?_)
  obtain ⟨v, h', cs1, sl1, s1, g1, g2, g3, g4⟩ := g hh hI (zQ_wk hc hs)
  refine ⟨h', cs1, sl1, c' ++ w1, s1, _, ⟨CSX_mo g3.1 (fun q hq => wsub_ok hU hq), FVz_mo g3.2 (fun q hq => wsub_ok hrw hq)⟩, ⟨g2.1, fun p hp => ?_⟩, g1, xCall_of hI hst hn g4⟩
  rcases List.mem_append.mp hp with hp | hp
  · exact g2.2 p hp
  · exact (zrf_ok g3.1 hw g2.1 (zQ_wk hw1 hs)).2 p hp
theorem zm_clr (st' : List Value) {a n : Nat} {ci : Option Nat} {d' : Nat} (hd : d = d' + 1) (hf : xIt L ml ret false E pc i len r = xCall 79 n ci) (hst : st = .ref a :: st') (hn : (Nat.beq 1 n && (Nat.ble (xcs st') 8 && crc ci [.ref a])) = true) (ha : cmem a rowL = true) (hw : (w.all (fun p => isRf p.1 p.2.1 && !(wmem (p.1, p.2.1) []))) = true) (g : Zm d W V w L ml ret E r rl st' (zf s a 2 0) P) (hrw : rfK a 2 V = true := by rfl) : Zm d W V w L ml ret E ((pc, i, len) :: r) rl st s P := by
  subst hd
  refine zm_gen hf (fun hh hI hs => ?_)
  have hr := cmem_ok ha
  obtain ⟨c, n, f, z, e1, -⟩ := row_of hI hr
  have h6 := rowL_6 a hr
  have hp := put_ok (v := .int 0) hI (fk_row a hr).2.2 (by omega) (show hh[a]? = some (.inr (oc a, _)) by rw [h6]; exact e1) (fk_2 a hr) ⟨_, rfl, by rw [i0]; omega, by rw [i0]; omega⟩ (by omega) (by omega)
  rw [h6] at hp
  have hal : a < hh.length := (List.getElem?_eq_some_iff.mp e1).1
  have flo : ∀ b q, ¬ (b = a ∧ q = 2) → fld (hh.set a (.inr (6, List.set [.int (Int32.ofNat (lim a)), .ref c, z] 2 (.int 0)))) b q = fld hh b q := fun b q hb => by
    unfold fld
    by_cases eb : b = a
    · subst eb
      rw [List.getElem?_set_self hal, e1]
      show (List.set _ 2 _)[q]? = _
      rw [List.getElem?_set_ne (fun w => hb ⟨rfl, w.symm⟩)]
    · rw [List.getElem?_set_ne (Ne.symm eb)]
  have own : fld (hh.set a (.inr (6, List.set [.int (Int32.ofNat (lim a)), .ref c, z] 2 (.int 0)))) a 2 = some (.int 0) := by
    unfold fld
    rw [List.getElem?_set_self hal]
    rfl
  have q1 : zI (hh.set a (.inr (6, List.set [.int (Int32.ofNat (lim a)), .ref c, z] 2 (.int 0)))) (zf s a 2 0) := by
    refine ⟨fun b q hb => ?_, fun b hb j => ?_⟩
    · by_cases e : b = a ∧ q = 2
      · rw [e.1, e.2, own]
        show _ = some (Value.int (if a = a ∧ 2 = 2 then 0 else _))
        rw [if_pos ⟨rfl, rfl⟩]
      · rw [flo b q e, hs.1.1 b q hb]
        show _ = some (Value.int (if b = a ∧ q = 2 then _ else s.1 b q))
        rw [if_neg e]
    · rw [show (zf s a 2 0).2 b j = s.2 b j from rfl, ← hs.1.2 b hb j]
      unfold rv
      rw [rc_st hI e1 (fun w => absurd w.2 (by decide)) hb]
  have q2 : CSX [] hh (hh.set a (.inr (6, List.set [.int (Int32.ofNat (lim a)), .ref c, z] 2 (.int 0)))) 0 0 := ⟨hp.1, ⟨hp.2.1.1.1, fun b q hb _ => flo b q (fun w => by
    rw [w.1, w.2] at hb
    unfold isRf at hb
    rw [fk_2 a hr, Bool.and_eq_true] at hb
    cases hb.2)⟩, hp.2.2.1, hp.2.2.2, fun b hb j _ => by
    unfold rv
    rw [rc_st hI e1 (fun w => absurd w.2 (by decide)) (wk_row hb)], fun b hb _ j => Or.inl (by
    unfold rv
    rw [rc_st hI e1 (fun w => absurd w.2 (by decide)) hb]), KL_eq (flo 3 10 (fun w => absurd w.2 (by decide))) (flo 39 10 (fun w => absurd w.2 (by decide))) (flo 0 9 (fun w => absurd w.2 (by decide))) (flo 0 11 (fun w => absurd w.2 (by decide))) hI⟩
  refine ⟨_, 0, 0, w, _, st', ⟨CSX_mo q2 (fun _ w => absurd w List.not_mem_nil), FVz_f hrw⟩, zrf_ok q2 hw q1 hs, g, xCall_of hI (vs := [.ref a]) hst hn (v := none) (yex_of (k := 4) rfl rfl rfl ?_)⟩
  refine xit_l (q := (none, (_, [.ref a], hh, 0, 0))) rfl ?_
  refine xit_l (q := (none, (_, [.int 0, .ref a], hh, 0, 0))) rfl ?_
  refine xit_l (rput (calls := yex d') (k := 2) (t := 0) e1 rfl rfl) ?_
  exact xit_r rfl
theorem zm_retI {v : Int32} (hf : xIt L ml ret false E pc i len r = xRetI) (hp : ∀ hh, INV hh → zQ w hh s → P (some (.int v)) hh s) : Zm d W V w L ml ret E ((pc, i, len) :: r) rl [.int v] s P := by
  intro hh hI hw
  refine ⟨1, some (.int v), hh, 0, 0, s, hp hh hI hw, hw.1, CSY_rf hI, fun loc cs sl hl => ?_⟩
  show xit (yex d) _ (0 + 1) (some (.inl ((pc, xIt L ml ret false E pc i len r) :: xmk L ml ret false E r, _))) = _
  rw [hf]
  exact xit_r rfl
theorem zm_retW {c : zW} {v : Int32} (hf : xIt L ml ret false E pc i len r = xRetI) (hs : s3 w c = true) (hp : Q (some (.int v)) s) : Zm d W V w L ml ret E ((pc, i, len) :: r) rl [.int v] s (zR Q c) := zm_retI hf (fun _ _ hw => ⟨hp, fun _ => (zQ_wk hs hw).2⟩)
theorem zm_retN {c : zW} {v : Int32} (hf : xIt L ml ret false E pc i len r = xRetI) (hv : ¬ v = 0) (hp : Q (some (.int v)) s) : Zm d W V w L ml ret E ((pc, i, len) :: r) rl [.int v] s (zR Q c) := zm_retI hf (fun _ _ _ => ⟨hp, fun e => absurd (Value.int.inj (Option.some.inj e)) hv⟩)
/-- a call, its references known where it answers 0 -/
theorem zm_zx (vs st' : List Value) {U : List (Nat × Nat)} {c c' w1 : zW} {j n : Nat} {ci : Option Nat} (hf : xIt L ml ret false E pc i len r = xCall j n ci) (hst : st = vs.reverse ++ st') (hn : (Nat.beq vs.length n && (Nat.ble (xcs st') 8 && crc ci vs)) = true) (hc : s3 w c = true) (hU : wsub U W = true) (hw : (w1.all (fun p => isRf p.1 p.2.1 && !(wmem (p.1, p.2.1) U))) = true) (hw1 : s3 w w1 = true) (g : Zx d U c c' j vs s (fun v s1 => ∃ x : Int32, v = some (.int x) ∧ (x = 0 → Zm d W V (c' ++ w1) L ml ret E r rl (.int x :: st') s1 P) ∧ (¬ x = 0 → Zm d W V w1 L ml ret E r rl (.int x :: st') s1 P))) (hrw : wsub (wrt c j vs) V = true := by rfl) : Zm d W V w L ml ret E ((pc, i, len) :: r) rl st s P := by
  refine zm_gen hf (fun hh hI hs => ?_)
  obtain ⟨v, h', cs1, sl1, s1, ⟨⟨x, rfl, g0, g1⟩, g5⟩, g2, g3, g4⟩ := g hh hI (zQ_wk hc hs)
  by_cases e : x = 0
  · refine ⟨h', cs1, sl1, c' ++ w1, s1, _, ⟨CSX_mo g3.1 (fun q hq => wsub_ok hU hq), FVz_mo g3.2 (fun q hq => wsub_ok hrw hq)⟩, ⟨g2, fun p hp => ?_⟩, g0 e, xCall_of hI hst hn g4⟩
    rcases List.mem_append.mp hp with hp | hp
    · exact g5 (by rw [e]) p hp
    · exact (zrf_ok g3.1 hw g2 (zQ_wk hw1 hs)).2 p hp
  · exact ⟨h', cs1, sl1, w1, s1, _, ⟨CSX_mo g3.1 (fun q hq => wsub_ok hU hq), FVz_mo g3.2 (fun q hq => wsub_ok hrw hq)⟩, ⟨g2, (zrf_ok g3.1 hw g2 (zQ_wk hw1 hs)).2⟩, g1 e, xCall_of hI hst hn g4⟩
theorem zn_zx {P : Option Value → zS → Prop} (vs st' : List Value) {U : List (Nat × Nat)} {c c' w1 : zW} {j n : Nat} {ci : Option Nat} (hf : xIt L ml ret false E pc i len r = xCall j n ci) (hst : st = vs.reverse ++ st') (hn : (Nat.beq vs.length n && (Nat.ble (xcs st') 8 && crc ci vs)) = true) (hc : s3 w c = true) (hU : wsub U W = true) (hw : (w1.all (fun p => isRf p.1 p.2.1 && !(wmem (p.1, p.2.1) U))) = true) (hw1 : s3 w w1 = true) (g : Zx d U c c' j vs s (fun v s1 => ∃ x : Int32, v = some (.int x) ∧ (x = 0 → Zn d W V (c' ++ w1) w' L ml ret E r rl (.int x :: st') s1 P) ∧ (¬ x = 0 → Zn d W V w1 w' L ml ret E r rl (.int x :: st') s1 P))) (hrw : wsub (wrt c j vs) V = true := by rfl) : Zn d W V w w' L ml ret E ((pc, i, len) :: r) rl st s P := by
  refine zn_gen hf (fun hh hI hs => ?_)
  obtain ⟨v, h', cs1, sl1, s1, ⟨⟨x, rfl, g0, g1⟩, g5⟩, g2, g3, g4⟩ := g hh hI (zQ_wk hc hs)
  by_cases e : x = 0
  · refine ⟨h', cs1, sl1, c' ++ w1, s1, _, ⟨CSX_mo g3.1 (fun q hq => wsub_ok hU hq), FVz_mo g3.2 (fun q hq => wsub_ok hrw hq)⟩, ⟨g2, fun p hp => ?_⟩, g0 e, xCall_of hI hst hn g4⟩
    rcases List.mem_append.mp hp with hp | hp
    · exact g5 (by rw [e]) p hp
    · exact (zrf_ok g3.1 hw g2 (zQ_wk hw1 hs)).2 p hp
  · exact ⟨h', cs1, sl1, w1, s1, _, ⟨CSX_mo g3.1 (fun q hq => wsub_ok hU hq), FVz_mo g3.2 (fun q hq => wsub_ok hrw hq)⟩, ⟨g2, (zrf_ok g3.1 hw g2 (zQ_wk hw1 hs)).2⟩, g1 e, xCall_of hI hst hn g4⟩
end ZZM
theorem zx_of {d i ml : Nat} {W V : List (Nat × Nat)} {w c' : zW} {L : xLD} {vs : List Value} {s : zS} {Q : Option Value → zS → Prop} {M : xM} {E : xCd} {ret : Option FieldType} (hM : xsg i = some M) (hF : xpr i = some (xmk L ml ret false E E)) (hl : Nat.ble (lg_sl vs).length M.2.2.1 = true) (g : Zm d W V w L ml ret E E (yin ml vs) [] s (zR Q c')) (hV : V = wrt w i vs := by rfl) : Zx (d + 1) W w c' i vs s Q := by
  subst hV
  intro hh hI hw
  obtain ⟨n, v, h', cs, sl, s', h1, h2, h3, h4⟩ := g hh hI hw
  refine ⟨v, h', cs, sl, s', h1, h2, h3, yex_of (k := n) hM hF hl ?_⟩
  have := h4 (lv_args 0 vs) 0 0 yL_entry
  rw [Nat.zero_add, Nat.zero_add] at this
  exact this
theorem Zx.imp {d : Nat} {U : List (Nat × Nat)} {c c' : zW} {j : Nat} {vs : List Value} {s : zS} {P Q : Option Value → zS → Prop} (h : Zx d U c c' j vs s P) (hq : ∀ v s', P v s' → Q v s') : Zx d U c c' j vs s Q := by
  intro hh hI hw
  obtain ⟨v, h', cs, sl, s', p1, p2, p3, p4⟩ := h hh hI hw
  exact ⟨v, h', cs, sl, s', ⟨hq v s' p1.1, p1.2⟩, p2, p3, p4⟩
theorem Zx.mo {d d' : Nat} {U : List (Nat × Nat)} {c c' : zW} {j : Nat} {vs : List Value} {s : zS} {P : Option Value → zS → Prop} (hd : d ≤ d') (h : Zx d U c c' j vs s P) : Zx d' U c c' j vs s P := by
  intro hh hI hw
  obtain ⟨v, h', cs, sl, s', p1, p2, p3, p4⟩ := h hh hI hw
  exact ⟨v, h', cs, sl, s', p1, p2, p3, yex_mono hd _ _ _ _ p4⟩
theorem Zx.sb {d : Nat} {U : List (Nat × Nat)} {c c' : zW} {j : Nat} {vs : List Value} {s : zS} {Q : Option Value → zS → Prop} (h : Zx d U c c' j vs s Q) (hS : SNz s) : Zx d U c c' j vs s (fun v s' => Q v s' ∧ SNz s' ∧ BDz s') := fun hh hI hq => by
  obtain ⟨v, h', cs, sl, s', p1, p2, p3, p4⟩ := h hh hI hq
  exact ⟨v, h', cs, sl, s', ⟨⟨p1.1, SNz_h p3.1.2.2.2.2.2.1 hq.1 p2 hS, BD_of p3.1.1 p2⟩, p1.2⟩, p2, p3, p4⟩
theorem Zx.fr {d : Nat} {U : List (Nat × Nat)} {c c' : zW} {j : Nat} {vs : List Value} {s : zS} {Q : Option Value → zS → Prop} (h : Zx d U c c' j vs s Q) : Zx d U c c' j vs s (fun v s' => Q v s' ∧ FVz (wrt c j vs) s s') := fun hh hI hq => by
  obtain ⟨v, h', cs, sl, s', p1, p2, p3, p4⟩ := h hh hI hq
  exact ⟨v, h', cs, sl, s', ⟨⟨p1.1, p3.2⟩, p1.2⟩, p2, p3, p4⟩
