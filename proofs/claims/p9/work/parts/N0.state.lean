/-! ===== the class: its whole state, runs by rules ===== -/
/-- int fields by cell and number; what the Rows hold, by the Row's cell -/
abbrev zS : Type := (Nat → Nat → Int32) × (Nat → Nat → Int32)
/-- references that are known -/
abbrev zW : Type := List (Nat × Nat × Nat)
/-- what a Row holds: 0 beyond -/
def rv (h : xH) (a i : Nat) : Int32 := match rc h a with
  | some q => if i < q.2.1 then q.2.2 i else 0
  | none => 0
def zI (h : xH) (s : zS) : Prop := (∀ a k, isIf a k = true → fld h a k = some (.int (s.1 a k))) ∧ ∀ a, a ∈ rowL → ∀ i, rv h a i = s.2 a i
def zQ (w : zW) (h : xH) (s : zS) : Prop := zI h s ∧ ∀ p ∈ w, fld h p.1 p.2.1 = some (.ref p.2.2)
/-- a field that holds a reference -/
def isRf (a k : Nat) : Bool := (Nat.blt a 213 && !(Nat.beq (oc a) 99)) && (match (fk a)[k]? with
  | some (.inr (.inl _)) => true
  | _ => false)
/-- the first words of both programs stay -/
def WKh (h h' : xH) : Prop := ∀ a, a = 21 ∨ a = 57 → ∀ i, i < 18 → rv h' a i = rv h a i
/-- a cell that is none of them -/
def wkx (a : Nat) (x : Int32) : Prop := (¬ a = 21 ∧ ¬ a = 57) ∨ x.toInt < 0 ∨ 18 ≤ x.toInt
theorem wk_row {a : Nat} (h : a = 21 ∨ a = 57) : a ∈ rowL := by
  rcases h with rfl | rfl <;> decide +kernel
theorem wk_no {a b j : Nat} {x : Int32} {l : Int} (hx : wkx a x) (hb : b = 21 ∨ b = 57) (hj : j < 18) (w : b = a ∧ (0 ≤ x.toInt ∧ x.toInt < l) ∧ j = x.toInt.toNat) : False := by
  obtain ⟨w1, w2, w3⟩ := w
  rcases hx with q | q | q
  · rcases hb with e | e
    · exact q.1 (w1.symm.trans e)
    · exact q.2 (w1.symm.trans e)
  · omega
  · omega
/-- Rows of what stands for PARAMS -/
def skE (a : Nat) : Bool := cmem a [76, 78, 80] || ((Nat.ble 113 a && Nat.ble a 195) && Nat.beq (a % 2) 1)
/-- Rows whose cells are sane: code, places of TYPES and values -/
def skB (a : Nat) : Bool := skE a || cmem a [37, 73, 106, 111, 198, 200, 202, 204]
def skM (a : Nat) : Int := match cod a with
  | true => 100000
  | false => match skE a with
    | true => 2000100000
    | false => 1000000000
def skS (a : Nat) (v : Int32) : Prop := skB a = true → -1000 ≤ v.toInt ∧ v.toInt ≤ skM a
/-- what is written there is sane -/
def SKh (h h' : xH) : Prop := ∀ a, a ∈ rowL → skB a = true → ∀ i, rv h' a i = rv h a i ∨ (-1000 ≤ (rv h' a i).toInt ∧ (rv h' a i).toInt ≤ skM a)
/-- a program's kept words stand behind the first ones -/
def kOK (h : xH) (Q : Nat) : Prop := ∃ y : Int32, fld h Q 10 = some (.int y) ∧ 18 ≤ y.toInt
/-- so do those of the program that is loaded -/
def LDh (h : xH) : Prop := fld h 0 11 = some (.int 0) ∨ ∀ Q, fld h 0 9 = some (.ref Q) → kOK h Q
def KLh (h h' : xH) : Prop := (∀ Q, Q = 3 ∨ Q = 39 → kOK h Q → kOK h' Q) ∧ (LDh h → LDh h')
theorem KL_eq {h h' : xH} (e1 : fld h' 3 10 = fld h 3 10) (e2 : fld h' 39 10 = fld h 39 10) (e3 : fld h' 0 9 = fld h 0 9) (e4 : fld h' 0 11 = fld h 0 11) (hI : INV h) : KLh h h' := by
  have k : ∀ Q, Q = 3 ∨ Q = 39 → kOK h Q → kOK h' Q := fun Q hQ q => by
    obtain ⟨y, y1, y2⟩ := q
    rcases hQ with rfl | rfl
    · exact ⟨y, e1.trans y1, y2⟩
    · exact ⟨y, e2.trans y1, y2⟩
  refine ⟨k, fun q => ?_⟩
  rcases q with q | q
  · exact Or.inl (e4.trans q)
  · refine Or.inr (fun Q hQ => ?_)
    rw [e3] at hQ
    refine k Q ?_ (q Q hQ)
    obtain ⟨fs, f1, -, f3⟩ := hI.1 0 (by decide) (by decide)
    obtain ⟨u, u1, b, rfl, hb⟩ := f3 9 (.inr (.inl [3, 39])) (by decide +kernel)
    unfold fld at hQ
    rw [f1] at hQ
    have hQ : fs[9]? = some (Value.ref Q) := hQ
    rw [u1] at hQ
    cases hQ
    rcases List.mem_cons.mp hb with e | hb
    · exact Or.inl e
    · exact Or.inr (List.mem_singleton.mp hb)
/-- what stays: the reference; references but those of U -/
def CSX (U : List (Nat × Nat)) (h h' : xH) (cs sl : Nat) : Prop := INV h' ∧ ((∀ a, 213 ≤ a → a < 288 → h'[a]? = h[a]?) ∧ ∀ a k, isRf a k = true → ¬ (a, k) ∈ U → fld h' a k = fld h a k) ∧ h'.length = h.length + cs ∧ Sh h' = Sh h + sl ∧ WKh h h' ∧ SKh h h' ∧ KLh h h'
theorem CSX_rf {U : List (Nat × Nat)} {h : xH} (hI : INV h) : CSX U h h 0 0 := ⟨hI, ⟨fun _ _ _ => rfl, fun _ _ _ _ => rfl⟩, rfl, rfl, fun _ _ _ _ => rfl, fun _ _ _ _ => Or.inl rfl, fun _ _ q => q, fun q => q⟩
theorem CSX_tr {U : List (Nat × Nat)} {h h' h'' : xH} {cs sl cs' sl' : Nat} (a : CSX U h h' cs sl) (b : CSX U h' h'' cs' sl') : CSX U h h'' (cs + cs') (sl + sl') := by
  obtain ⟨-, ⟨a1, a2⟩, a3, a4, a5, a6, a7⟩ := a
  obtain ⟨b0, ⟨b1, b2⟩, b3, b4, b5, b6, b7⟩ := b
  exact ⟨b0, ⟨fun q h1 h2 => (b1 q h1 h2).trans (a1 q h1 h2), fun q k h1 h2 => (b2 q k h1 h2).trans (a2 q k h1 h2)⟩, by omega, by omega, fun q hq i hi => (b5 q hq i hi).trans (a5 q hq i hi), fun q hq hk i => by
    rcases b6 q hq hk i with e | e
    · rcases a6 q hq hk i with w | w
      · exact Or.inl (e.trans w)
      · exact Or.inr (by rw [e]; exact w)
    · exact Or.inr e, fun q hq k => b7.1 q hq (a7.1 q hq k), fun q => b7.2 (a7.2 q)⟩
theorem CSX_mo {U U' : List (Nat × Nat)} {h h' : xH} {cs sl : Nat} (a : CSX U h h' cs sl) (hU : ∀ q ∈ U, q ∈ U') : CSX U' h h' cs sl := ⟨a.1, ⟨a.2.1.1, fun q k h1 h2 => a.2.1.2 q k h1 (fun w => h2 (hU _ w))⟩, a.2.2⟩
/-! Rows of the two programs: which of them a method may write -/
/-- a table of the program Q; its words, tokens -/
def pTb (Q a : Nat) : Bool := (Nat.blt Q a && Nat.ble a (Q + 35)) && !(Nat.beq a (Q + 18) || Nat.beq a (Q + 20))
def pWd (Q a : Nat) : Bool := Nat.beq a (Q + 18) || Nat.beq a (Q + 20)
/-- V: (Q, 99): all of Q may be written; (Q, 98): its words, tokens, kept, fault -/
def FVq (V : List (Nat × Nat)) (Q : Nat) (s s' : zS) : Prop := (¬ (Q, 99) ∈ V → (∀ a, pTb Q a = true → s'.2 a = s.2 a ∧ s'.1 a 2 = s.1 a 2) ∧ ∀ k, k = 11 ∨ k = 12 ∨ k = 13 → s'.1 Q k = s.1 Q k) ∧ (¬ (Q, 99) ∈ V → ¬ (Q, 98) ∈ V → (∀ a, pWd Q a = true → s'.2 a = s.2 a) ∧ s'.1 Q 10 = s.1 Q 10 ∧ s'.1 Q 14 = s.1 Q 14)
/-- marks of Rows and fields: values of a run, OUT, what is made, the texts of the two programs -/
def mrT (Q a : Nat) : Bool := Nat.beq a (Q + 2) || (Nat.beq a (Q + 4) || (Nat.beq a (Q + 6) || (Nat.beq a (Q + 8) || Nat.beq a (Q + 10))))
def mrR (a : Nat) : Nat := bif Nat.beq a 111 then 111 else bif Nat.beq a 207 then 207 else bif mrT 3 a then 403 else bif mrT 39 a then 439 else 0
def mrF (a k : Nat) : Nat := bif (Nat.beq a 111 && Nat.beq k 2) || (Nat.beq a 105 && Nat.beq k 14) then 111 else bif Nat.beq a 207 && Nat.beq k 2 then 207 else bif (Nat.beq a 198 || (Nat.beq a 200 || Nat.beq a 202)) && Nat.beq k 2 then 198 else 0
def FVo (V : List (Nat × Nat)) (s s' : zS) : Prop := (∀ a, ¬ mrR a = 0 → ¬ (0, mrR a) ∈ V → s'.2 a = s.2 a) ∧ ∀ a k, ¬ mrF a k = 0 → ¬ (0, mrF a k) ∈ V → s'.1 a k = s.1 a k
theorem FVo_rf {V : List (Nat × Nat)} {s : zS} : FVo V s s := ⟨fun _ _ _ => rfl, fun _ _ _ _ => rfl⟩
theorem FVo_tr {V : List (Nat × Nat)} {s u w : zS} (a : FVo V s u) (b : FVo V u w) : FVo V s w := ⟨fun x h g => (b.1 x h g).trans (a.1 x h g), fun x k h g => (b.2 x k h g).trans (a.2 x k h g)⟩
theorem FVo_mo {V V' : List (Nat × Nat)} {s u : zS} (a : FVo V s u) (h : ∀ q ∈ V, q ∈ V') : FVo V' s u := ⟨fun x g g' => a.1 x g (fun z => g' (h _ z)), fun x k g g' => a.2 x k g (fun z => g' (h _ z))⟩
def FVz (V : List (Nat × Nat)) (s s' : zS) : Prop := FVq V 3 s s' ∧ FVq V 39 s s' ∧ FVo V s s'
theorem FVq_rf {V : List (Nat × Nat)} {Q : Nat} {s : zS} : FVq V Q s s := ⟨fun _ => ⟨fun _ _ => ⟨rfl, rfl⟩, fun _ _ => rfl⟩, fun _ _ => ⟨fun _ _ => rfl, rfl, rfl⟩⟩
theorem FVz_rf {V : List (Nat × Nat)} {s : zS} : FVz V s s := ⟨FVq_rf, FVq_rf, FVo_rf⟩
theorem FVq_tr {V : List (Nat × Nat)} {Q : Nat} {s u w : zS} (a : FVq V Q s u) (b : FVq V Q u w) : FVq V Q s w := ⟨fun h => ⟨fun x hx => ⟨((b.1 h).1 x hx).1.trans ((a.1 h).1 x hx).1, ((b.1 h).1 x hx).2.trans ((a.1 h).1 x hx).2⟩, fun k hk => ((b.1 h).2 k hk).trans ((a.1 h).2 k hk)⟩, fun h h' => ⟨fun x hx => ((b.2 h h').1 x hx).trans ((a.2 h h').1 x hx), (b.2 h h').2.1.trans (a.2 h h').2.1, (b.2 h h').2.2.trans (a.2 h h').2.2⟩⟩
theorem FVz_tr {V : List (Nat × Nat)} {s u w : zS} (a : FVz V s u) (b : FVz V u w) : FVz V s w := ⟨FVq_tr a.1 b.1, FVq_tr a.2.1 b.2.1, FVo_tr a.2.2 b.2.2⟩
theorem FVq_mo {V V' : List (Nat × Nat)} {Q : Nat} {s u : zS} (a : FVq V Q s u) (h : ∀ q ∈ V, q ∈ V') : FVq V' Q s u := ⟨fun g => a.1 (fun z => g (h _ z)), fun g g' => a.2 (fun z => g (h _ z)) (fun z => g' (h _ z))⟩
theorem FVz_mo {V V' : List (Nat × Nat)} {s u : zS} (a : FVz V s u) (h : ∀ q ∈ V, q ∈ V') : FVz V' s u := ⟨FVq_mo a.1 h, FVq_mo a.2.1 h, FVo_mo a.2.2 h⟩
/-- what a method may write: by its number, and by the program that it knows -/
def bkN (n : Nat) : Nat := bif Nat.ble 3 n && Nat.ble n 38 then 3 else bif Nat.ble 39 n && Nat.ble n 74 then 39 else 0
def bkC : zW → Nat
  | [] => 0
  | p :: l => match bkN p.2.2 with
    | 0 => bkC l
    | q => q
def bkV : List Value → Nat
  | [] => 0
  | .ref n :: l => match bkN n with
    | 0 => bkV l
    | q => q
  | _ :: l => bkV l
def wcl (j : Nat) : Nat := bif cmem j [1, 13, 15, 19, 20, 25, 27, 28, 38, 73, 74, 87, 88, 89, 91, 92, 97, 99, 105, 106, 107, 108, 122, 132, 134, 135, 136, 141, 142, 145, 147, 152] then 98 else bif cmem j [5, 6, 7, 8, 9, 10, 11, 12, 14, 37, 54, 55, 56, 57, 58, 59, 61, 62, 63, 64, 65, 66, 67, 68, 69, 70, 71, 110, 112, 113, 114, 128, 129, 131, 140] then 99 else 0
def pmt (q k : Nat) : List (Nat × Nat) := bif Nat.beq k 99 then [(q, 99), (q, 98)] else [(q, 98)]
def wrP (c : zW) (j : Nat) (vs : List Value) : List (Nat × Nat) := match wcl j with
  | 0 => []
  | k => match bkC c with
    | 0 => match bkV vs with
      | 0 => []
      | q => pmt q k
    | q => pmt q k
/-- the marks that a method may write -/
def mks (j : Nat) : List (Nat × Nat) := bif cmem j [18, 19, 20, 26, 29, 142] then [(0, 111)] else bif cmem j [31, 32, 33, 34, 35, 148] then [(0, 207)] else bif cmem j [97, 99, 100, 101, 102, 105, 106, 108, 145] then [(0, 198)] else bif cmem j [37, 110, 112, 113, 140, 141, 147, 152] then [(0, 403), (0, 439)] else []
def wrt (c : zW) (j : Nat) (vs : List Value) : List (Nat × Nat) := wrP c j vs ++ mks j
theorem mks_0 {j : Nat} {p : Nat × Nat} (h : p ∈ mks j) : p.1 = 0 := by
  unfold mks at h
  cases h1 : cmem j [18, 19, 20, 26, 29, 142] <;> cases h2 : cmem j [31, 32, 33, 34, 35, 148] <;> cases h3 : cmem j [97, 99, 100, 101, 102, 105, 106, 108, 145] <;> cases h4 : cmem j [37, 110, 112, 113, 140, 141, 147, 152] <;> rw [h1, h2, h3, h4] at h <;> simp at h <;> first | (rcases h with rfl | rfl <;> rfl) | (subst h; rfl)
/-- what a call leaves -/
def CSY (W V : List (Nat × Nat)) (s s' : zS) (h h' : xH) (cs sl : Nat) : Prop := CSX W h h' cs sl ∧ FVz V s s'
theorem CSY_rf {W V : List (Nat × Nat)} {s : zS} {h : xH} (hI : INV h) : CSY W V s s h h 0 0 := ⟨CSX_rf hI, FVz_rf⟩
theorem CSY_tr {W V : List (Nat × Nat)} {s u w : zS} {h h' h'' : xH} {cs sl cs' sl' : Nat} (a : CSY W V s u h h' cs sl) (b : CSY W V u w h' h'' cs' sl') : CSY W V s w h h'' (cs + cs') (sl + sl') := ⟨CSX_tr a.1 b.1, FVz_tr a.2 b.2⟩
theorem isRf_lt {a k : Nat} (h : isRf a k = true) : a < 213 := by
  unfold isRf at h
  rw [Bool.and_eq_true, Bool.and_eq_true] at h
  exact Nat.le_of_ble_eq_true h.1.1
theorem isIf_lt {a k : Nat} (h : isIf a k = true) : a < 213 := by
  unfold isIf at h
  rw [Bool.and_eq_true, Bool.and_eq_true] at h
  exact Nat.le_of_ble_eq_true h.1.1
/-- a Row's own cells are neither -/
theorem rf_1 : ∀ b, b < 213 → (isIf b 1 || isRf b 1) = true → ¬ wc b = 6 ∧ ¬ wc b = 100 ∧ ¬ wc b = 101 := by decide +kernel
theorem rf_2 : ∀ b, b < 213 → ∀ k, k < 3 → isRf b k = true → ¬ wc b = 6 ∧ ¬ wc b = 100 ∧ ¬ wc b = 101 := by decide +kernel
theorem wc_row : ∀ b ∈ rowL, wc b = 6 ∨ wc b = 100 ∨ wc b = 101 := by decide +kernel
/-! Rows -/
section ZROW
variable {d : Nat} {h : xH} {a c n : Nat} {f : Nat → Int32} {z : Value} {x v : Int32}
theorem rv_of (e : rc h a = some (c, n, f)) (i : Nat) : rv h a i = if i < n then f i else 0 := by
  unfold rv
  rw [e]
theorem wr_rc {i : Nat} (hI : INV h) (ha : a ∈ rowL) (e : rc h a = some (c, n, f)) : rc (h.set c (.inl (0, n, .inl (upd f i x)))) a = some (c, n, upd f i x) ∧ ∀ b ∈ rowL, ¬ b = a → rc (h.set c (.inl (0, n, .inl (upd f i x)))) b = rc h b := by
  obtain ⟨hT, ⟨r1, r2, r3, r4⟩, hl, hE⟩ := hI
  obtain ⟨ef, ec⟩ := rc_inv e
  have hcl : c < h.length := (List.getElem?_eq_some_iff.mp ec).1
  have oth : ∀ b, ¬ b = c → (h.set c (.inl (0, n, .inl (upd f i x))))[b]? = h[b]? := fun b hb => by rw [List.getElem?_set_ne (Ne.symm hb)]
  have own : (h.set c (.inl (0, n, .inl (upd f i x))))[c]? = some (.inl (0, n, .inl (upd f i x))) := by rw [List.getElem?_set_self hcl]
  have flo : ∀ b q, fld (h.set c (.inl (0, n, .inl (upd f i x)))) b q = fld h b q := fun b q => by
    unfold fld
    by_cases eb : b = c
    · subst eb
      rw [own, ec]
    · rw [oth b eb]
  refine ⟨rc_mk ((flo a 1).trans ef) own, fun b hb hne => ?_⟩
  obtain ⟨-, c', n', f', q1, -⟩ := r1 b hb
  have hd := r2 b hb a ha hne
  rw [q1, e] at hd
  obtain ⟨q2, q3⟩ := rc_inv q1
  rw [q1]
  refine rc_mk ((flo b 1).trans q2) ?_
  rw [oth c' (fun w => hd (by rw [w]; rfl))]
  exact q3
theorem gr_rc {m : Nat} {g : Nat → Int32} {h2 : xH} (hI : INV h) (e1 : h[a]? = some (.inr (6, [.int (Int32.ofNat (lim a)), .ref c, z]))) (e2 : h2 = ((h ++ [.inl (0, m, .inl g)] : xH)).set a (.inr (6, [.int (Int32.ofNat (lim a)), .ref h.length, z]))) : ∀ b ∈ rowL, ¬ b = a → rc h2 b = rc h b := by
  obtain ⟨hT, ⟨r1, r2, r3, r4⟩, hl, hE⟩ := hI
  have oth : ∀ b, b < h.length → ¬ b = a → h2[b]? = h[b]? := fun b h1 h2' => by
    rw [e2, List.getElem?_set_ne (Ne.symm h2'), List.getElem?_append_left h1]
  intro b hb hne
  obtain ⟨-, c', n', f', q1, -⟩ := r1 b hb
  obtain ⟨q2, q3⟩ := rc_inv q1
  have hb' := (fk_row b hb).2.2
  rw [q1]
  refine rc_mk ?_ ?_
  · unfold fld
    rw [oth b (by omega) hne]
    exact q2
  · rw [oth c' (List.getElem?_eq_some_iff.mp q3).1 (fun w => by
      rw [w, e1] at q3
      cases q3)]
    exact q3
/-- what a Row's set does -/
def rvP (a : Nat) (x v : Int32) (h h' : xH) : Prop := ∀ b ∈ rowL, ∀ j, rv h' b j = if b = a ∧ (0 ≤ x.toInt ∧ x.toInt < (lim a : Int)) ∧ j = x.toInt.toNat then v else rv h b j
theorem rvP_no (hx : ¬ (0 ≤ x.toInt ∧ x.toInt < (lim a : Int))) : rvP a x v h h := fun b _ j => by rw [if_neg (fun w => hx w.2.1)]
theorem rvP_wr (hI : INV h) (ha : a ∈ rowL) (e : rc h a = some (c, n, f)) (h0 : 0 ≤ x.toInt) (hn : x.toInt < (n : Int)) (hL : n ≤ lim a) : rvP a x v h (h.set c (.inl (0, n, .inl (upd f x.toInt.toNat v)))) := by
  obtain ⟨q1, q2⟩ := wr_rc (x := v) (i := x.toInt.toNat) hI ha e
  intro b hb j
  by_cases eb : b = a
  · subst eb
    rw [rv_of q1, rv_of e]
    unfold upd
    by_cases ej : j = x.toInt.toNat
    · rw [if_pos (show j < n by omega), if_pos ej, if_pos ⟨rfl, ⟨h0, by omega⟩, ej⟩]
    · rw [if_neg ej, if_neg (show ¬ (b = b ∧ (0 ≤ x.toInt ∧ x.toInt < (lim b : Int)) ∧ j = x.toInt.toNat) from fun w => ej w.2.2)]
  · rw [if_neg (fun w => eb w.1)]
    unfold rv
    rw [q2 b hb eb]
theorem rvP_gr {h1 h2 : xH} (hg : ∀ b ∈ rowL, ∀ j, rv h1 b j = rv h b j) (h2' : rvP a x v h1 h2) : rvP a x v h h2 := fun b hb j => by rw [h2' b hb j, hg b hb j]
/-- Row.get -/
theorem y_76z (hI : INV h) (ha : a ∈ rowL) : yex (d + 1) 76 [.ref a, .int x] h = some (some (.int (if 0 ≤ x.toInt then rv h a x.toInt.toNat else 0)), h, 0, 0) := by
  obtain ⟨c, n, f, z, e1, e2, e3, e4, e5, -, -⟩ := row_of hI ha
  have hn := iN (n := n) (by have := (fk_row a ha).2.1; omega)
  by_cases h0 : x < 0
  · rw [if_neg (by have := (i_lt (x := x) (y := 0) rfl i0).mp h0; omega)]
    refine yex_of (k := 4) rfl rfl rfl ?_
    refine xit_l (q := (none, (_, [.int x], h, 0, 0))) rfl ?_
    refine xit_l (rbt (calls := yex d) (t := 12) (show xc_lt [.int x] = some (true, []) by show some (decide (x < 0), ([] : List Value)) = _; rw [decide_eq_true h0])) ?_
    refine xit_l (q := (none, (_, [.int 0], h, 0, 0))) rfl ?_
    exact xit_r rfl
  · have x0 : 0 ≤ x.toInt := by
      have := mt (i_lt rfl i0).mpr h0
      omega
    by_cases h1 : x.toInt < (n : Int)
    · rw [if_pos x0, rv_of e3, if_pos (by omega)]
      refine yex_of (k := 13) rfl rfl rfl ?_
      refine xit_l (q := (none, (_, [.int x], h, 0, 0))) rfl ?_
      refine xit_l (rbf (calls := yex d) (t := 12) (show xc_lt [.int x] = some (false, []) by show some (decide (x < 0), ([] : List Value)) = _; rw [decide_eq_false h0])) ?_
      refine xit_l (q := (none, (_, [.int x], h, 0, 0))) rfl ?_
      refine xit_l (q := (none, (_, [.ref a, .int x], h, 0, 0))) rfl ?_
      refine xit_l (rget (calls := yex d) (ci := 6) (k := 1) e1 rfl) ?_
      refine xit_l (rlen (calls := yex d) e2) ?_
      refine xit_l (rbf (calls := yex d) (t := 12) (show xc_ige [.int (Int32.ofNat n), .int x] = some (false, []) by show some (decide (Int32.ofNat n ≤ x), ([] : List Value)) = _; rw [decide_eq_false (fun w => by have := (i_le hn rfl).mp w; omega)])) ?_
      refine xit_l (q := (none, (_, [.ref a], h, 0, 0))) rfl ?_
      refine xit_l (rget (calls := yex d) (ci := 6) (k := 1) e1 rfl) ?_
      refine xit_l (q := (none, (_, [.int x, .ref c], h, 0, 0))) rfl ?_
      refine xit_l (rial (calls := yex d) e2 ⟨x0, h1⟩) ?_
      refine xit_l (q := (some 13, (_, [.int (f x.toInt.toNat)], h, 0, 0))) rfl ?_
      exact xit_r rfl
    · rw [if_pos x0, rv_of e3, if_neg (by omega)]
      refine yex_of (k := 9) rfl rfl rfl ?_
      refine xit_l (q := (none, (_, [.int x], h, 0, 0))) rfl ?_
      refine xit_l (rbf (calls := yex d) (t := 12) (show xc_lt [.int x] = some (false, []) by show some (decide (x < 0), ([] : List Value)) = _; rw [decide_eq_false h0])) ?_
      refine xit_l (q := (none, (_, [.int x], h, 0, 0))) rfl ?_
      refine xit_l (q := (none, (_, [.ref a, .int x], h, 0, 0))) rfl ?_
      refine xit_l (rget (calls := yex d) (ci := 6) (k := 1) e1 rfl) ?_
      refine xit_l (rlen (calls := yex d) e2) ?_
      refine xit_l (rbt (calls := yex d) (t := 12) (show xc_ige [.int (Int32.ofNat n), .int x] = some (true, []) by show some (decide (Int32.ofNat n ≤ x), ([] : List Value)) = _; rw [decide_eq_true ((i_le hn rfl).mpr (by omega))])) ?_
      refine xit_l (q := (none, (_, [.int 0], h, 0, 0))) rfl ?_
      exact xit_r rfl
set_option maxRecDepth 20000 in
theorem y_77z (hI : INV h) (ha : a ∈ rowL) (hv : (ckR a).1 ≤ v.toInt ∧ v.toInt ≤ (ckR a).2) (hw : cod a = true → x.toInt % 2 = 0 → v.toInt < 2147483647) : ∃ h' cs sl, yex (d + 2) 77 [.ref a, .int x, .int v] h = some (none, h', cs, sl) ∧ CST [(wc a, 1)] h h' cs sl ∧ rvP a x v h h' := by
  obtain ⟨c, n, f, z, e1, e2, e3, e4, e5, e6, e7⟩ := row_of hI ha
  have hL := (fk_row a ha).2.1
  have eL := iN (n := lim a) (by omega)
  have en := iN (n := n) (by omega)
  by_cases h0 : x < 0
  · refine ⟨h, 0, 0, yex_of (k := 3) rfl rfl rfl ?_, CST_rf hI, rvP_no (by have := (i_lt (x := x) (y := 0) rfl i0).mp h0; omega)⟩
    refine xit_l (q := (none, (_, [.int x], h, 0, 0))) rfl ?_
    refine xit_l (rbt (calls := yex (d + 1)) (t := 6) (show xc_lt [.int x] = some (true, []) by show some (decide (x < 0), ([] : List Value)) = _; rw [decide_eq_true h0])) ?_
    exact xit_r rfl
  · have x0 : 0 ≤ x.toInt := by
      have := mt (i_lt rfl i0).mpr h0
      omega
    have hv : cki a x.toInt.toNat v := ⟨hv, fun w w' => hw w (by omega)⟩
    by_cases h1 : x.toInt < (lim a : Int)
    · by_cases h2 : x.toInt < (n : Int)
      · refine ⟨h.set c (.inl (0, n, .inl (upd f x.toInt.toNat v))), 0, 0, yex_of (k := 17) rfl rfl rfl ?_, wr_ok hI ha e3 hv, rvP_wr hI ha e3 x0 h2 e5⟩
        refine xit_l (q := (none, (_, [.int x], h, 0, 0))) rfl ?_
        refine xit_l (rbf (calls := yex (d + 1)) (t := 6) (show xc_lt [.int x] = some (false, []) by show some (decide (x < 0), ([] : List Value)) = _; rw [decide_eq_false h0])) ?_
        refine xit_l (q := (none, (_, [.int x], h, 0, 0))) rfl ?_
        refine xit_l (q := (none, (_, [.ref a, .int x], h, 0, 0))) rfl ?_
        refine xit_l (rget (calls := yex (d + 1)) (ci := 6) (k := 0) e1 rfl) ?_
        refine xit_l (rbt (calls := yex (d + 1)) (t := 7) (show xc_ilt [.int (Int32.ofNat (lim a)), .int x] = some (true, []) by show some (decide (x < Int32.ofNat (lim a)), ([] : List Value)) = _; rw [decide_eq_true ((i_lt rfl eL).mpr h1)])) ?_
        refine xit_l (q := (none, (_, [.int x], h, 0, 0))) rfl ?_
        refine xit_l (q := (none, (_, [.ref a, .int x], h, 0, 0))) rfl ?_
        refine xit_l (rget (calls := yex (d + 1)) (ci := 6) (k := 1) e1 rfl) ?_
        refine xit_l (rlen (calls := yex (d + 1)) e2) ?_
        refine xit_l (rbt (calls := yex (d + 1)) (t := 29) (show xc_ilt [.int (Int32.ofNat n), .int x] = some (true, []) by show some (decide (x < Int32.ofNat n), ([] : List Value)) = _; rw [decide_eq_true ((i_lt rfl en).mpr h2)])) ?_
        refine xit_l (q := (none, (_, [.ref a], h, 0, 0))) rfl ?_
        refine xit_l (rget (calls := yex (d + 1)) (ci := 6) (k := 1) e1 rfl) ?_
        refine xit_l (q := (none, (_, [.int x, .ref c], h, 0, 0))) rfl ?_
        refine xit_l (q := (none, (_, [.int v, .int x, .ref c], h, 0, 0))) rfl ?_
        refine xit_l (rias (calls := yex (d + 1)) e2 ⟨x0, h2⟩) ?_
        exact xit_r rfl
      · have hw := nwl_ok (x := x) (L := lim a) (n := n) hL (by omega) h1
        have hm : (nwl (lim a) n x).toInt.toNat = (nwl (lim a) n x).toInt := Int.toNat_of_nonneg (by omega)
        have hll : h.length < 1000000 := by
          obtain ⟨-, ⟨-, -, r3, r4⟩, -⟩ := hI
          omega
        have hcp := y_271 (d := d) (h := h) (mm := nwl (lim a) n x) e2 hw.1 (by omega) hll
        have hbd : ∀ i, i < (nwl (lim a) n x).toInt.toNat → cki a i (va_cpy f (fun _ => 0) 0 0 n i) := fun i _ => by
          unfold va_cpy
          split
          · rename_i hi
            rw [show 0 + (i - 0) = i by omega]
            exact e7 i (by omega)
          · exact ⟨ck0 a ha, fun _ _ => by show (0 : Int32).toInt < 2147483647; decide⟩
        obtain ⟨g1, g2, g3, g4⟩ := grow_ok (h2 := ((h ++ [.inl (0, (nwl (lim a) n x).toInt.toNat, .inl (va_cpy f (fun _ => 0) 0 0 n))] : xH)).set a (.inr (6, [.int (Int32.ofNat (lim a)), .ref h.length, z]))) hI ha e1 e3 (m := (nwl (lim a) n x).toInt.toNat) (by omega) hbd rfl
        have g5 := wr_ok (i := x.toInt.toNat) g1.1 ha g2 hv
        have g6 := CST_tr g1 g5
        have g8 : ∀ b ∈ rowL, ∀ j, rv (((h ++ [.inl (0, (nwl (lim a) n x).toInt.toNat, .inl (va_cpy f (fun _ => 0) 0 0 n))] : xH)).set a (.inr (6, [.int (Int32.ofNat (lim a)), .ref h.length, z]))) b j = rv h b j := fun b hb j => by
          by_cases eb : b = a
          · subst eb
            rw [rv_of g2, rv_of e3]
            unfold va_cpy
            by_cases hj : j < n
            · rw [if_pos (by omega), if_pos (by omega), if_pos hj, show 0 + (j - 0) = j by omega]
            · rw [if_neg hj]
              split
              · rw [if_neg (by omega)]
              · rfl
          · unfold rv
            rw [gr_rc hI e1 rfl b hb eb]
        refine ⟨_, _, _, yex_of (k := 34) rfl rfl rfl ?_, g6, rvP_gr g8 (rvP_wr g1.1 ha g2 x0 (by omega) (by omega))⟩
        refine xit_l (q := (none, (_, [.int x], h, 0, 0))) rfl ?_
        refine xit_l (rbf (calls := yex (d + 1)) (t := 6) (show xc_lt [.int x] = some (false, []) by show some (decide (x < 0), ([] : List Value)) = _; rw [decide_eq_false h0])) ?_
        refine xit_l (q := (none, (_, [.int x], h, 0, 0))) rfl ?_
        refine xit_l (q := (none, (_, [.ref a, .int x], h, 0, 0))) rfl ?_
        refine xit_l (rget (calls := yex (d + 1)) (ci := 6) (k := 0) e1 rfl) ?_
        refine xit_l (rbt (calls := yex (d + 1)) (t := 7) (show xc_ilt [.int (Int32.ofNat (lim a)), .int x] = some (true, []) by show some (decide (x < Int32.ofNat (lim a)), ([] : List Value)) = _; rw [decide_eq_true ((i_lt rfl eL).mpr h1)])) ?_
        refine xit_l (q := (none, (_, [.int x], h, 0, 0))) rfl ?_
        refine xit_l (q := (none, (_, [.ref a, .int x], h, 0, 0))) rfl ?_
        refine xit_l (rget (calls := yex (d + 1)) (ci := 6) (k := 1) e1 rfl) ?_
        refine xit_l (rlen (calls := yex (d + 1)) e2) ?_
        refine xit_l (rbf (calls := yex (d + 1)) (t := 29) (show xc_ilt [.int (Int32.ofNat n), .int x] = some (false, []) by show some (decide (x < Int32.ofNat n), ([] : List Value)) = _; rw [decide_eq_false (mt (i_lt rfl en).mp h2)])) ?_
        refine xit_l (q := (none, (_, [.ref a], h, 0, 0))) rfl ?_
        refine xit_l (q := (none, (_, [.ref a, .ref a], h, 0, 0))) rfl ?_
        refine xit_l (rget (calls := yex (d + 1)) (ci := 6) (k := 1) e1 rfl) ?_
        refine xit_l (q := (none, (_, [.ref a, .ref c, .ref a], h, 0, 0))) rfl ?_
        refine xit_l (rget (calls := yex (d + 1)) (ci := 6) (k := 0) e1 rfl) ?_
        refine xit_l (q := (none, (_, [.int x, .int (Int32.ofNat (lim a)), .ref c, .ref a], h, 0, 0))) rfl ?_
        refine xit_l (q := (none, (_, [.int 1, .int x, .int (Int32.ofNat (lim a)), .ref c, .ref a], h, 0, 0))) rfl ?_
        refine xit_l (q := (none, (_, [.int (x + 1), .int (Int32.ofNat (lim a)), .ref c, .ref a], h, 0, 0))) rfl ?_
        refine xit_l (q := (none, (_, [.int 2, .int (x + 1), .int (Int32.ofNat (lim a)), .ref c, .ref a], h, 0, 0))) rfl ?_
        refine xit_l (q := (none, (_, [.ref a, .int 2, .int (x + 1), .int (Int32.ofNat (lim a)), .ref c, .ref a], h, 0, 0))) rfl ?_
        refine xit_l (rget (calls := yex (d + 1)) (ci := 6) (k := 1) e1 rfl) ?_
        refine xit_l (rlen (calls := yex (d + 1)) e2) ?_
        refine xit_l (q := (none, (_, [.int (2 * Int32.ofNat n), .int (x + 1), .int (Int32.ofNat (lim a)), .ref c, .ref a], h, 0, 0))) rfl ?_
        refine xit_l (rmx (calls := yex (d + 1)) (show xcs [.int (Int32.ofNat (lim a)), .ref c, .ref a] ≤ 8 from Nat.le_of_ble_eq_true rfl)) ?_
        refine xit_l (rmn (calls := yex (d + 1)) (show xcs [.ref c, .ref a] ≤ 8 from Nat.le_of_ble_eq_true rfl)) ?_
        refine xit_l (rcl (calls := yex (d + 1)) (loc := lv_args 0 [.ref a, .int x, .int v]) (st := [.ref a]) (cs := 0) (sl := 0) hcp rfl) ?_
        refine xit_l (rput (a := a) (fs := [.int (Int32.ofNat (lim a)), .ref c, z]) (calls := yex (d + 1)) (by rw [List.getElem?_append_left (by have := (fk_row a ha).2.2; have := hI.2.2.1; omega)]; exact e1) rfl rfl) ?_
        refine xit_l (q := (none, (_, [.ref a], _, 0 + 1, 0 + (nwl (lim a) n x).toInt.toNat))) rfl ?_
        refine xit_l (rget (calls := yex (d + 1)) (ci := 6) (k := 1) g3 rfl) ?_
        refine xit_l (q := (none, (_, [.int x, .ref h.length], _, 0 + 1, 0 + (nwl (lim a) n x).toInt.toNat))) rfl ?_
        refine xit_l (q := (none, (_, [.int v, .int x, .ref h.length], _, 0 + 1, 0 + (nwl (lim a) n x).toInt.toNat))) rfl ?_
        refine xit_l (rias (calls := yex (d + 1)) g4 ⟨x0, by omega⟩) ?_
        refine (xit_r rfl).trans ?_
        rw [Nat.zero_add, Nat.zero_add]
        rfl
    · refine ⟨h, 0, 0, yex_of (k := 7) rfl rfl rfl ?_, CST_rf hI, rvP_no (by omega)⟩
      refine xit_l (q := (none, (_, [.int x], h, 0, 0))) rfl ?_
      refine xit_l (rbf (calls := yex (d + 1)) (t := 6) (show xc_lt [.int x] = some (false, []) by show some (decide (x < 0), ([] : List Value)) = _; rw [decide_eq_false h0])) ?_
      refine xit_l (q := (none, (_, [.int x], h, 0, 0))) rfl ?_
      refine xit_l (q := (none, (_, [.ref a, .int x], h, 0, 0))) rfl ?_
      refine xit_l (rget (calls := yex (d + 1)) (ci := 6) (k := 0) e1 rfl) ?_
      refine xit_l (rbf (calls := yex (d + 1)) (t := 7) (show xc_ilt [.int (Int32.ofNat (lim a)), .int x] = some (false, []) by show some (decide (x < Int32.ofNat (lim a)), ([] : List Value)) = _; rw [decide_eq_false (mt (i_lt rfl eL).mp h1)])) ?_
      exact xit_r rfl
theorem row_k (ha : a ∈ rowL) {b q : Nat} (hb : b < 213) (hq : q = 1 → (isIf b q || isRf b q) = true) : ¬ (wc b, q) ∈ [(wc a, 1)] := fun w => by
  have hwr := wc_row a ha
  have w := List.mem_singleton.mp w
  have w1 : wc b = wc a := congrArg Prod.fst w
  have w2 : q = 1 := congrArg Prod.snd w
  subst w2
  obtain ⟨k1, k2, k3⟩ := rf_1 b hb (hq rfl)
  omega
/-- int fields and references stay, but a Row's size -/
def frA (a : Nat) (h h' : xH) : Prop := ∀ b q, b < 213 → (q = 1 → (isIf b q || isRf b q) = true) → ¬ (b = a ∧ q = 2) → fld h' b q = fld h b q
/-- a field but the first two of a Row: the Rows' cells stay -/
theorem rc_st {b ci k : Nat} {fs : List Value} (hI : INV h) (e : h[a]? = some (.inr (ci, fs))) (hk : ¬ (a ∈ rowL ∧ k = 1)) (hb : b ∈ rowL) {v : Value} : rc (h.set a (.inr (ci, fs.set k v))) b = rc h b := by
  obtain ⟨-, ⟨r1, -⟩, -⟩ := hI
  obtain ⟨-, c', n', f', q1, -⟩ := r1 b hb
  obtain ⟨q2, q3⟩ := rc_inv q1
  have hal : a < h.length := (List.getElem?_eq_some_iff.mp e).1
  rw [q1]
  refine rc_mk ?_ ?_
  · unfold fld
    by_cases eb : b = a
    · subst eb
      rw [List.getElem?_set_self hal]
      unfold fld at q2
      rw [e] at q2
      show (fs.set k v)[1]? = _
      rw [List.getElem?_set_ne (fun w => hk ⟨hb, w⟩)]
      exact q2
    · rw [List.getElem?_set_ne (Ne.symm eb)]
      exact q2
  · rw [List.getElem?_set_ne (fun w => by
      rw [← w, e] at q3
      cases q3)]
    exact q3
theorem rc_put {k ci : Nat} {fs : List Value} {v : Value} (hI : INV h) (_ha : a ∈ rowL) (e : h[a]? = some (.inr (ci, fs))) (hk : ¬ k = 1) : ∀ b ∈ rowL, rc (h.set a (.inr (ci, fs.set k v))) b = rc h b := fun b hb => rc_st hI e (fun w => hk w.2) hb
/-- Row.add -/
theorem y_78z {z : Int32} (hI : INV h) (ha : a ∈ rowL) (hz : fld h a 2 = some (.int z)) (hv : (ckR a).1 ≤ v.toInt ∧ v.toInt ≤ (ckR a).2) (hw : cod a = true → z.toInt < (lim a : Int) → z.toInt % 2 = 0 → v.toInt < 2147483647) : ∃ h' cs sl, yex (d + 3) 78 [.ref a, .int v] h = some (none, h', cs, sl) ∧ CST [(wc a, 1), (wc a, 2)] h h' cs sl ∧ fld h' a 2 = some (.int (if z < Int32.ofNat (lim a) then z + 1 else z)) ∧ rvP a z v h h' ∧ frA a h h' := by
  obtain ⟨c, n, f, z', e1, e2, e3, e4, e5, e6, e7⟩ := row_of hI ha
  have hz' : z' = .int z := by
    unfold fld at hz
    rw [e1] at hz
    exact Option.some.inj hz
  subst hz'
  obtain ⟨z0, q0, z1, z2⟩ := row_z hI ha e1
  cases q0
  have hL := (fk_row a ha).2.1
  have h6 := rowL_6 a ha
  have eL := iN (n := lim a) (by omega)
  by_cases h0 : z < Int32.ofNat (lim a)
  · obtain ⟨h1, cs, sl, s1, s2, s3⟩ := y_77z (d := d) (x := z) hI ha hv (fun c e => hw c ((i_lt rfl eL).mp h0) e)
    obtain ⟨c', n', f', z', p1, -⟩ := row_of s2.1 ha
    have hz' : z' = .int z := by
      have q : fld h1 a 2 = fld h a 2 := s2.2.1.2 a 2 (fk_row a ha).2.2 (fun w => by
        cases w with
        | tail _ w => exact absurd w List.not_mem_nil)
      rw [hz] at q
      unfold fld at q
      rw [p1] at q
      exact Option.some.inj q
    subst hz'
    have k0 := (i_lt rfl eL).mp h0
    have ez : (z + 1).toInt = z.toInt + 1 := i_add rfl (show (1 : Int32).toInt = 1 by decide) (by omega)
    have hp := put_ok (v := .int (z + 1)) s2.1 (fk_row a ha).2.2 (by omega) (by rw [h6]; exact p1) (fk_2 a ha) ⟨_, rfl, by omega, by omega⟩ (by omega) (by omega)
    rw [h6] at hp
    refine ⟨_, cs, sl, yex_of (k := 17) rfl rfl rfl ?_, CST_tr (CST_mo s2 (fun q hq => by
      cases hq with
      | head => exact List.mem_cons_self
      | tail _ w => exact absurd w List.not_mem_nil)) (CST_mo hp (fun q hq => by
      cases hq with
      | head => exact List.mem_cons_of_mem _ List.mem_cons_self
      | tail _ w => exact absurd w List.not_mem_nil)), ?_, ?_, ?_⟩
    · refine xit_l (q := (none, (_, [.ref a], h, 0, 0))) rfl ?_
      refine xit_l (rget (calls := yex (d + 2)) (ci := 6) (k := 2) e1 rfl) ?_
      refine xit_l (q := (none, (_, [.ref a, .int z], h, 0, 0))) rfl ?_
      refine xit_l (rget (calls := yex (d + 2)) (ci := 6) (k := 0) e1 rfl) ?_
      refine xit_l (rbf (calls := yex (d + 2)) (t := 16) (show xc_ige [.int (Int32.ofNat (lim a)), .int z] = some (false, []) by show some (decide (Int32.ofNat (lim a) ≤ z), ([] : List Value)) = _; rw [decide_eq_false (fun w => by have := (i_le eL rfl).mp w; omega)])) ?_
      refine xit_l (q := (none, (_, [.ref a], h, 0, 0))) rfl ?_
      refine xit_l (q := (none, (_, [.ref a, .ref a], h, 0, 0))) rfl ?_
      refine xit_l (rget (calls := yex (d + 2)) (ci := 6) (k := 2) e1 rfl) ?_
      refine xit_l (q := (none, (_, [.int v, .int z, .ref a], h, 0, 0))) rfl ?_
      refine xit_l (rcv3 (k := 6) (calls := yex (d + 2)) (loc := lv_args 0 [.ref a, .int v]) (st := []) (cs := 0) (sl := 0) s1 rfl e1) ?_
      rw [Nat.zero_add, Nat.zero_add]
      refine xit_l (q := (none, (_, [.ref a], h1, cs, sl))) rfl ?_
      refine xit_l (q := (none, (_, [.ref a, .ref a], h1, cs, sl))) rfl ?_
      refine xit_l (rget (calls := yex (d + 2)) (ci := 6) (k := 2) p1 rfl) ?_
      refine xit_l (q := (none, (_, [.int 1, .int z, .ref a], h1, cs, sl))) rfl ?_
      refine xit_l (q := (none, (_, [.int (z + 1), .ref a], h1, cs, sl))) rfl ?_
      refine xit_l (rput (calls := yex (d + 2)) (k := 2) (t := 0) p1 rfl rfl) ?_
      exact xit_r rfl
    · rw [if_pos h0]
      unfold fld
      rw [List.getElem?_set_self ((List.getElem?_eq_some_iff.mp p1).1)]
      rfl
    · intro b hb j
      rw [← s3 b hb j]
      unfold rv
      rw [rc_put (k := 2) (v := .int (z + 1)) s2.1 ha p1 (by decide) b hb]
    · intro b q hb hq hne
      refine Eq.trans ?_ (s2.2.1.2 b q hb (row_k ha hb hq))
      unfold fld
      by_cases eb : b = a
      · subst eb
        rw [List.getElem?_set_self ((List.getElem?_eq_some_iff.mp p1).1), p1]
        show (List.set _ 2 _)[q]? = _
        rw [List.getElem?_set_ne (fun w => hne ⟨rfl, w.symm⟩)]
      · rw [List.getElem?_set_ne (Ne.symm eb)]
  · refine ⟨h, 0, 0, yex_of (k := 6) rfl rfl rfl ?_, CST_rf hI, by rw [if_neg h0]; exact hz, rvP_no (by have := mt (i_lt rfl eL).mpr h0; omega), fun _ _ _ _ _ => rfl⟩
    refine xit_l (q := (none, (_, [.ref a], h, 0, 0))) rfl ?_
    refine xit_l (rget (calls := yex (d + 2)) (ci := 6) (k := 2) e1 rfl) ?_
    refine xit_l (q := (none, (_, [.ref a, .int z], h, 0, 0))) rfl ?_
    refine xit_l (rget (calls := yex (d + 2)) (ci := 6) (k := 0) e1 rfl) ?_
    refine xit_l (rbt (calls := yex (d + 2)) (t := 16) (show xc_ige [.int (Int32.ofNat (lim a)), .int z] = some (true, []) by show some (decide (Int32.ofNat (lim a) ≤ z), ([] : List Value)) = _; rw [decide_eq_true ((i_le eL rfl).mpr (by have := mt (i_lt rfl eL).mpr h0; omega))])) ?_
    exact xit_r rfl
end ZROW
/-- a run from a place of a method's code to its end -/
def Zn (d : Nat) (W V : List (Nat × Nat)) (w w' : zW) (L : xLD) (ml : Nat) (ret : Option FieldType) (E l : xCd) (rl st : List Value) (s : zS) (P : Option Value → zS → Prop) : Prop :=
  ∀ hh, INV hh → zQ w hh s → ∃ (n : Nat) (v : Option Value) (h' : xH) (cs' sl' : Nat) (s' : zS), P v s' ∧ zQ w' h' s' ∧ CSY W V s s' hh h' cs' sl' ∧ ∀ (loc : cLoc) (cs sl : Nat), yL rl loc → xit (yex d) (xmk L ml ret false E E) n (some (.inl (xmk L ml ret false E l, (loc, st, hh, cs, sl)))) = some (.inr (v, h', cs + cs', sl + sl'))
section ZN
variable {d ml : Nat} {W V : List (Nat × Nat)} {w w' : zW} {L : xLD} {ret : Option FieldType} {E : xCd} {pc len : Nat} {i : Instr} {r : xCd} {rl st : List Value} {s : zS} {P : Option Value → zS → Prop}
theorem zn_step {rl' st' : List Value} {f : xF} (hf : xIt L ml ret false E pc i len r = f) (F : cLoc → cLoc) (hF : ∀ loc, yL rl loc → yL rl' (F loc)) (h : ∀ (hh : xH) (loc : cLoc) (cs sl : Nat), INV hh → zQ w hh s → yL rl loc → f (yex d) (loc, st, hh, cs, sl) = some (.inl (none, (F loc, st', hh, cs, sl)))) (g : Zn d W V w w' L ml ret E r rl' st' s P) : Zn d W V w w' L ml ret E ((pc, i, len) :: r) rl st s P := by
  intro hh hI hw
  obtain ⟨n, v, h2, cs', sl', s', p1, p2, p3, p4⟩ := g hh hI hw
  refine ⟨n + 1, v, h2, cs', sl', s', p1, p2, p3, fun loc cs sl hl => ?_⟩
  show xit (yex d) _ (n + 1) (some (.inl ((pc, xIt L ml ret false E pc i len r) :: xmk L ml ret false E r, _))) = _
  rw [hf]
  exact xit_l (h hh loc cs sl hI hw hl) (p4 (F loc) cs sl (hF loc hl))
theorem zn_gen {f : xF} (hf : xIt L ml ret false E pc i len r = f) (h : ∀ hh, INV hh → zQ w hh s → ∃ (hh' : xH) (cs1 sl1 : Nat) (w1 : zW) (s1 : zS) (st1 : List Value), CSY W V s s1 hh hh' cs1 sl1 ∧ zQ w1 hh' s1 ∧ Zn d W V w1 w' L ml ret E r rl st1 s1 P ∧ ∀ (loc : cLoc) (cs sl : Nat), f (yex d) (loc, st, hh, cs, sl) = some (.inl (none, (loc, st1, hh', cs + cs1, sl + sl1)))) : Zn d W V w w' L ml ret E ((pc, i, len) :: r) rl st s P := by
  intro hh hI hw
  obtain ⟨hh', cs1, sl1, w1, s1, st1, c1, c2, g, c3⟩ := h hh hI hw
  obtain ⟨n, v, h2, cs', sl', s', p1, p2, p3, p4⟩ := g hh' c1.1.1 c2
  refine ⟨n + 1, v, h2, cs1 + cs', sl1 + sl', s', p1, p2, CSY_tr c1 p3, fun loc cs sl hl => ?_⟩
  show xit (yex d) _ (n + 1) (some (.inl ((pc, xIt L ml ret false E pc i len r) :: xmk L ml ret false E r, _))) = _
  rw [hf, ← Nat.add_assoc, ← Nat.add_assoc]
  exact xit_l (c3 loc cs sl) (p4 loc _ _ hl)
theorem zn_jump {st' : List Value} {t : Nat} {f : xF} (hf : xIt L ml ret false E pc i len r = f) (h : ∀ (hh : xH) (loc : cLoc) (cs sl : Nat), f (yex d) (loc, st, hh, cs, sl) = some (.inl (some t, (loc, st', hh, cs, sl)))) (g : Zn d W V w w' L ml ret E (E.drop t) rl st' s P) : Zn d W V w w' L ml ret E ((pc, i, len) :: r) rl st s P := by
  intro hh hI hw
  obtain ⟨n, v, h2, cs', sl', s', p1, p2, p3, p4⟩ := g hh hI hw
  refine ⟨n + 1, v, h2, cs', sl', s', p1, p2, p3, fun loc cs sl hl => ?_⟩
  show xit (yex d) _ (n + 1) (some (.inl ((pc, xIt L ml ret false E pc i len r) :: xmk L ml ret false E r, _))) = _
  rw [hf]
  refine xit_l (h hh loc cs sl) ?_
  have h3 := p4 loc cs sl hl
  rw [← xmk_drop] at h3
  exact h3
theorem zn_end {v : Option Value} {f : xF} (hf : xIt L ml ret false E pc i len r = f) (h : ∀ (hh : xH) (loc : cLoc) (cs sl : Nat), f (yex d) (loc, st, hh, cs, sl) = some (.inr (v, hh, cs, sl))) (hp : P v s) : Zn d W V w w L ml ret E ((pc, i, len) :: r) rl st s P := by
  intro hh hI hw
  refine ⟨1, v, hh, 0, 0, s, hp, hw, CSY_rf hI, fun loc cs sl hl => ?_⟩
  show xit (yex d) _ (0 + 1) (some (.inl ((pc, xIt L ml ret false E pc i len r) :: xmk L ml ret false E r, _))) = _
  rw [hf]
  exact xit_r (h hh loc cs sl)
theorem zn_fg {l : xCd} (k : Nat) (g : Zn d W V w w' L ml ret E l (rl.set k .null) st s P) : Zn d W V w w' L ml ret E l rl st s P := by
  intro hh hI hw
  obtain ⟨n, v, h2, cs', sl', s', p1, p2, p3, p4⟩ := g hh hI hw
  exact ⟨n, v, h2, cs', sl', s', p1, p2, p3, fun loc cs sl hl => p4 loc cs sl (yL_fg hl)⟩
theorem zQ_wk {w c : zW} {hh : xH} {s : zS} (h : s3 w c = true) (hs : zQ w hh s) : zQ c hh s := ⟨hs.1, fun p hp => hs.2 p (s3_ok h hp)⟩
theorem zn_wk {c : zW} {l : xCd} (h : s3 w c = true) (g : Zn d W V c w' L ml ret E l rl st s P) : Zn d W V w w' L ml ret E l rl st s P := fun hh hI hw => g hh hI (zQ_wk h hw)
theorem zn_ld {k : Nat} {ok : Value → Bool} {v : Value} (hf : xIt L ml ret false E pc i len r = xLd k ok) (hk : rl[k]? = some v) (hv : (ynn v && ok v) = true) (g : Zn d W V w w' L ml ret E r rl (v :: st) s P) : Zn d W V w w' L ml ret E ((pc, i, len) :: r) rl st s P := by
  rw [Bool.and_eq_true] at hv
  refine zn_step hf (fun l => l) (fun _ h => h) (fun hh loc cs sl _ _ hl => ?_) g
  simp only [xLd, yL_ld hl hk hv.1, hv.2]
theorem zn_st (rl' : List Value) {k : Nat} {ok : Value → Bool} {v : Value} (hf : xIt L ml ret false E pc i len r = xSt k ok xf1) (hv : (ok v && ylj rl k) = true) (he : rl.set k v = rl') (g : Zn d W V w w' L ml ret E r rl' st s P) : Zn d W V w w' L ml ret E ((pc, i, len) :: r) rl (v :: st) s P := by
  rw [Bool.and_eq_true] at hv
  subst he
  refine zn_step hf (fun l => (k, v) :: xf1 k l) (fun _ h => yL_st h hv.2) (fun hh loc cs sl _ _ hl => ?_) g
  simp only [xSt, hv.1]
theorem zn_inc (rl' : List Value) {k : Nat} {n : Int} {x : Int32} (hf : xIt L ml ret false E pc i len r = xInc k n) (hk : rl[k]? = some (.int x)) (hv : ylj rl k = true) (he : rl.set k (.int (x + Int32.ofInt n)) = rl') (g : Zn d W V w w' L ml ret E r rl' st s P) : Zn d W V w w' L ml ret E ((pc, i, len) :: r) rl st s P := by
  subst he
  refine zn_step hf (fun l => (k, .int (x + Int32.ofInt n)) :: xf1 k l) (fun _ h => yL_st h hv) (fun hh loc cs sl _ _ hl => ?_) g
  simp only [xInc, yL_ld hl hk rfl]
theorem zn_c (st' : List Value) (op : List Value → Option (List Value)) (hf : xIt L ml ret false E pc i len r = xPure op) (ho : op st = some st') (g : Zn d W V w w' L ml ret E r rl st' s P) : Zn d W V w w' L ml ret E ((pc, i, len) :: r) rl st s P := by
  refine zn_step hf (fun l => l) (fun _ h => h) (fun hh loc cs sl _ _ hl => ?_) g
  simp only [xPure, ho]
theorem zn_br {c : List Value → Option (Bool × List Value)} {t : Nat} {b : Bool} {st' : List Value} (hf : xIt L ml ret false E pc i len r = xBr c t) (hc : c st = some (b, st')) (g1 : b = true → Zn d W V w w' L ml ret E (E.drop t) rl st' s P) (g2 : b = false → Zn d W V w w' L ml ret E r rl st' s P) : Zn d W V w w' L ml ret E ((pc, i, len) :: r) rl st s P := by
  cases b with
  | true => exact zn_jump hf (fun hh loc cs sl => by simp only [xBr, hc]) (g1 rfl)
  | false => exact zn_step hf (fun l => l) (fun _ h => h) (fun hh loc cs sl _ _ hl => by simp only [xBr, hc]) (g2 rfl)
theorem zn_brP {c : List Value → Option (Bool × List Value)} {t : Nat} {p : Prop} {dp : Decidable p} {st' : List Value} (hf : xIt L ml ret false E pc i len r = xBr c t) (hc : c st = some (@decide p dp, st')) (g : (p → Zn d W V w w' L ml ret E (E.drop t) rl st' s P) ∧ (¬ p → Zn d W V w w' L ml ret E r rl st' s P)) : Zn d W V w w' L ml ret E ((pc, i, len) :: r) rl st s P :=
  zn_br hf hc (fun h => g.1 (of_decide_eq_true h)) (fun h => g.2 (of_decide_eq_false h))
theorem zn_brN {c : List Value → Option (Bool × List Value)} {t : Nat} {p : Prop} {dp : Decidable p} {st' : List Value} (hf : xIt L ml ret false E pc i len r = xBr c t) (hc : c st = some (!@decide p dp, st')) (g : (¬ p → Zn d W V w w' L ml ret E (E.drop t) rl st' s P) ∧ (p → Zn d W V w w' L ml ret E r rl st' s P)) : Zn d W V w w' L ml ret E ((pc, i, len) :: r) rl st s P :=
  zn_br hf hc (fun h => g.1 (by
    intro hp
    rw [decide_eq_true hp] at h
    cases h)) (fun h => g.2 (by
    by_cases hp : p
    · exact hp
    · rw [decide_eq_false hp] at h
      cases h))
theorem zn_go {t : Nat} (hf : xIt L ml ret false E pc i len r = xBr xc_go t) (g : Zn d W V w w' L ml ret E (E.drop t) rl st s P) : Zn d W V w w' L ml ret E ((pc, i, len) :: r) rl st s P :=
  zn_jump hf (fun hh loc cs sl => rfl) g
theorem zn_ret0 (hf : xIt L ml ret false E pc i len r = xRet0) (hp : P none s) : Zn d W V w w L ml ret E ((pc, i, len) :: r) rl [] s P := zn_end hf (fun _ _ _ _ => rfl) hp
theorem zn_retI {v : Int32} (hf : xIt L ml ret false E pc i len r = xRetI) (hp : P (some (.int v)) s) : Zn d W V w w L ml ret E ((pc, i, len) :: r) rl [.int v] s P := zn_end hf (fun _ _ _ _ => rfl) hp
theorem zn_retZ {v : Int32} (hf : xIt L ml ret false E pc i len r = xRetZ) (hv : (v == 0 || v == 1) = true) (hp : P (some (.int v)) s) : Zn d W V w w L ml ret E ((pc, i, len) :: r) rl [.int v] s P := zn_end hf (fun _ _ _ _ => by simp only [xRetZ, hv]) hp
theorem zn_sw {lo hi dflt : Int} {offs : Array Int} {x : Int32} (h : ∃ t, (if x.toInt < lo ∨ hi < x.toInt then xgt E pc dflt else match offs.toList[(x.toInt - lo).toNat]? with
    | some off => xgt E pc off
    | none => none) = some t ∧ Zn d W V w w' L ml ret E (E.drop t) rl st s P) : Zn d W V w w' L ml ret E ((pc, .tableswitch dflt lo hi offs, len) :: r) rl (.int x :: st) s P := by
  obtain ⟨t, h1, h2⟩ := h
  refine zn_jump (t := t) (f := xTs lo hi offs.toList dflt (xgt E pc)) rfl (fun hh loc cs sl => ?_) h2
  simp only [xTs]
  split at h1
  · rename_i hx
    rw [if_pos hx]
    simp only [h1]
  · rename_i hx
    rw [if_neg hx]
    split at h1
    · rename_i off ho
      simp only [ho, h1]
    · cases h1
/-! fields -/
def zVal (w : zW) (s : zS) (a ci k : Nat) (v : Value) : Prop := ∀ hh, INV hh → zQ w hh s → ∃ fs, hh[a]? = some (.inr (ci, fs)) ∧ fs[k]? = some v
theorem zn_get {a ci k : Nat} {v : Value} (hf : xIt L ml ret false E pc i len r = xGet ci k) (hv : zVal w s a ci k v) (g : Zn d W V w w' L ml ret E r rl (v :: st) s P) : Zn d W V w w' L ml ret E ((pc, i, len) :: r) rl (.ref a :: st) s P := by
  refine zn_step hf (fun l => l) (fun _ h => h) (fun hh loc cs sl hI hw _ => ?_) g
  obtain ⟨fs, f1, f2⟩ := hv hh hI hw
  exact rget f1 f2
theorem zv_R {a k b : Nat} (ha : cOK a = true) (hk : (fk a)[k]? = some (.inr (.inl [b]))) : zVal w s a (oc a) k (.ref b) := by
  intro hh hI _
  obtain ⟨fs, v, f1, f2, -, c, rfl, hc⟩ := fl_of hI ha hk
  rw [List.mem_singleton.mp hc] at f2
  exact ⟨fs, f1, f2⟩
theorem zv_f {a k : Nat} {v : Value} {K : cK} (ha : cOK a = true) (hk : (fk a)[k]? = some K) (h : ∀ hh, INV hh → zQ w hh s → fld hh a k = some v) : zVal w s a (oc a) k v := by
  intro hh hI hw
  obtain ⟨fs, u, f1, f2, f3, -⟩ := fl_of hI ha hk
  rw [h hh hI hw] at f3
  cases f3
  exact ⟨fs, f1, f2⟩
theorem zv_C {a k b n : Nat} {K : cK} (ha : cOK a = true) (hk : (fk a)[k]? = some K) (hn : w[n]? = some (a, k, b)) : zVal w s a (oc a) k (.ref b) := zv_f ha hk (fun hh _ hw => hw.2 _ (List.mem_of_getElem? hn))
theorem zv_I {a k : Nat} {lo hi : Int} (ha : cOK a = true) (hk : (fk a)[k]? = some (.inl (lo, hi))) : zVal w s a (oc a) k (.int (s.1 a k)) := zv_f ha hk (fun hh _ hw => hw.1.1 a k (by
  unfold isIf
  rw [hk]
  unfold cOK at ha
  rw [ha]
  rfl))
/-- a field's writing -/
theorem zn_putG {a ci k t : Nat} {v : Value} {K : cK} {w1 : zW} {s1 : zS} (hf : xIt L ml ret false E pc i len r = xPut ci k t) (ha : cOK a = true) (hc : oc a = ci) (hk : (fk a)[k]? = some K) (hv : qvK K v) (ht : xfT t v = true) (h6 : (Nat.beq ci 6 && Nat.ble k 1) = false) (hU : isRf a k = true → (a, k) ∈ W) (hs : ∀ hh hh', (∀ b q, ¬ (b = a ∧ q = k) → fld hh' b q = fld hh b q) → fld hh' a k = some v → (∀ b ∈ rowL, ∀ j, rv hh' b j = rv hh b j) → zQ w hh s → zQ w1 hh' s1) (hK : ∀ hh hh', (∀ b q, ¬ (b = a ∧ q = k) → fld hh' b q = fld hh b q) → fld hh' a k = some v → INV hh → zQ w hh s → KLh hh hh') (hRW : FVz V s s1) (g : Zn d W V w1 w' L ml ret E r rl st s1 P) : Zn d W V w w' L ml ret E ((pc, i, len) :: r) rl (v :: .ref a :: st) s P := by
  refine zn_gen hf (fun hh hI hw => ?_)
  obtain ⟨fs, u, f1, f2, -, -⟩ := fl_of hI ha hk
  have ha' := ha
  unfold cOK at ha'
  rw [Bool.and_eq_true] at ha'
  have h2 : ¬ oc a = 99 := fun w => by
    have := ha'.2
    rw [w] at this
    cases this
  have h6' : ¬ (oc a = 6 ∧ k ≤ 1) := fun w => by
    rw [← hc, w.1, Nat.ble_eq_true_of_le w.2] at h6
    cases h6
  have hp := put_gen (W := [(200, 14), (wc a, k)]) hI (Nat.le_of_ble_eq_true ha'.1) h2 f1 hk hv h6' (List.mem_cons_of_mem _ List.mem_cons_self) (Or.inl List.mem_cons_self)
  have hal : a < hh.length := (List.getElem?_eq_some_iff.mp f1).1
  have hkl : k < fs.length := (List.getElem?_eq_some_iff.mp f2).1
  have flo : ∀ b q, ¬ (b = a ∧ q = k) → fld (hh.set a (.inr (oc a, fs.set k v))) b q = fld hh b q := fun b q hb => by
    unfold fld
    by_cases eb : b = a
    · subst eb
      rw [List.getElem?_set_self hal, f1]
      show (fs.set k v)[q]? = fs[q]?
      rw [List.getElem?_set_ne (fun e => hb ⟨rfl, e.symm⟩)]
    · rw [List.getElem?_set_ne (Ne.symm eb)]
  have rve : ∀ b ∈ rowL, ∀ j, rv (hh.set a (.inr (oc a, fs.set k v))) b j = rv hh b j := fun b hb j => by
    unfold rv
    rw [rc_st hI f1 (fun e => h6' ⟨rowL_6 a e.1, by omega⟩) hb]
  have own : fld (hh.set a (.inr (oc a, fs.set k v))) a k = some v := by
    unfold fld
    rw [List.getElem?_set_self hal]
    exact List.getElem?_set_self hkl
  refine ⟨_, 0, 0, w1, s1, st, ⟨⟨hp.1, ⟨hp.2.1.1.1, fun b q hb hn => flo b q (fun e => hn ?_)⟩, hp.2.2.1, hp.2.2.2, fun b hb j _ => rve b (wk_row hb) j, fun b hb _ j => Or.inl (rve b hb j), hK hh _ flo own hI hw⟩, hRW⟩, hs hh _ flo own rve hw, g, fun loc cs sl => ?_⟩
  · rw [e.1, e.2]
    exact hU (by rw [← e.1, ← e.2]; exact hb)
  · rw [← hc]
    exact rput f1 (Nat.ble_eq_true_of_le hkl) ht
/-- an int field is written -/
def zf (s : zS) (a k : Nat) (v : Int32) : zS := (fun b q => if b = a ∧ q = k then v else s.1 b q, s.2)
/-- a Row's cell is written -/
def zr (s : zS) (a i : Nat) (v : Int32) : zS := (s.1, fun b => if b = a then upd (s.2 a) i v else s.2 b)
/-- what Row.get answers -/
def zg (s : zS) (a : Nat) (x : Int32) : Int32 := if 0 ≤ x.toInt then s.2 a x.toInt.toNat else 0
/-- what Row.set does -/
def zt (s : zS) (a : Nat) (x v : Int32) : zS := if 0 ≤ x.toInt ∧ x.toInt < (lim a : Int) then zr s a x.toInt.toNat v else s
/-- what Row.add does -/
def za (s : zS) (a : Nat) (v : Int32) : zS := if (s.1 a 2).toInt < (lim a : Int) then zf (zr s a (s.1 a 2).toInt.toNat v) a 2 (s.1 a 2 + 1) else s
/-- an int field, a Row that may be written -/
def rfQ (Q a k : Nat) (V : List (Nat × Nat)) : Bool := (bif (Nat.beq a Q && (Nat.beq k 11 || (Nat.beq k 12 || Nat.beq k 13))) || (pTb Q a && Nat.beq k 2) then wmem (Q, 99) V else true) && (bif Nat.beq a Q && (Nat.beq k 10 || Nat.beq k 14) then wmem (Q, 99) V || wmem (Q, 98) V else true)
def rwQ (Q a : Nat) (V : List (Nat × Nat)) : Bool := (bif pTb Q a then wmem (Q, 99) V else true) && (bif pWd Q a then wmem (Q, 99) V || wmem (Q, 98) V else true)
def rfO (a k : Nat) (V : List (Nat × Nat)) : Bool := bif Nat.beq (mrF a k) 0 then true else wmem (0, mrF a k) V
def rwO (a : Nat) (V : List (Nat × Nat)) : Bool := bif Nat.beq (mrR a) 0 then true else wmem (0, mrR a) V
def rfK (a k : Nat) (V : List (Nat × Nat)) : Bool := (rfQ 3 a k V && rfQ 39 a k V) && rfO a k V
def rwK (a : Nat) (V : List (Nat × Nat)) : Bool := ((rwQ 3 a V && rwQ 39 a V) && rwO a V) && rfK a 2 V
theorem beq_no {n : Nat} (h : ¬ n = 0) : Nat.beq n 0 = false := by
  cases n with
  | zero => exact absurd rfl h
  | succ n => rfl
theorem FVo_f {V : List (Nat × Nat)} {a k : Nat} {s : zS} {x : Int32} (h : rfO a k V = true) : FVo V s (zf s a k x) := by
  refine ⟨fun _ _ _ => rfl, fun b q hb hn => ?_⟩
  show (if b = a ∧ q = k then x else s.1 b q) = s.1 b q
  rw [if_neg]
  rintro ⟨rfl, rfl⟩
  unfold rfO at h
  rw [beq_no hb] at h
  exact hn (wmem_ok h)
theorem FVo_r {V : List (Nat × Nat)} {a i : Nat} {s : zS} {x : Int32} (h : rwO a V = true) : FVo V s (zr s a i x) := by
  refine ⟨fun b hb hn => ?_, fun _ _ _ _ => rfl⟩
  show (if b = a then upd (s.2 a) i x else s.2 b) = s.2 b
  rw [if_neg]
  rintro rfl
  unfold rwO at h
  rw [beq_no hb] at h
  exact hn (wmem_ok h)
theorem FVq_f {V : List (Nat × Nat)} {Q a k : Nat} {s : zS} {x : Int32} (h : rfQ Q a k V = true) : FVq V Q s (zf s a k x) := by
  unfold rfQ at h
  rw [Bool.and_eq_true] at h
  refine ⟨fun n => ⟨fun b hb => ⟨rfl, ?_⟩, fun q hq => ?_⟩, fun n n' => ⟨fun _ _ => rfl, ?_, ?_⟩⟩
  · show (if b = a ∧ 2 = k then x else s.1 b 2) = s.1 b 2
    rw [if_neg]
    rintro ⟨rfl, rfl⟩
    have h1 := h.1
    rw [hb] at h1
    rw [show (Nat.beq b Q && (Nat.beq 2 11 || (Nat.beq 2 12 || Nat.beq 2 13)) || (true && Nat.beq 2 2)) = true by rw [show Nat.beq 2 2 = true from rfl]; exact Bool.or_true _] at h1
    exact n (wmem_ok h1)
  · show (if Q = a ∧ q = k then x else s.1 Q q) = s.1 Q q
    rw [if_neg]
    rintro ⟨rfl, rfl⟩
    have h1 := h.1
    rw [show (Nat.beq Q Q && (Nat.beq q 11 || (Nat.beq q 12 || Nat.beq q 13)) || (pTb Q Q && Nat.beq q 2)) = true by
      rw [Nat.beq_refl Q]
      rcases hq with rfl | rfl | rfl <;> rfl] at h1
    exact n (wmem_ok h1)
  · show (if Q = a ∧ 10 = k then x else s.1 Q 10) = s.1 Q 10
    rw [if_neg]
    rintro ⟨rfl, rfl⟩
    have h1 := h.2
    rw [show (Nat.beq Q Q && (Nat.beq 10 10 || Nat.beq 10 14)) = true by rw [Nat.beq_refl Q]; rfl] at h1
    have h1 : (wmem (Q, 99) V || wmem (Q, 98) V) = true := h1
    rw [Bool.or_eq_true] at h1
    rcases h1 with h1 | h1
    · exact n (wmem_ok h1)
    · exact n' (wmem_ok h1)
  · show (if Q = a ∧ 14 = k then x else s.1 Q 14) = s.1 Q 14
    rw [if_neg]
    rintro ⟨rfl, rfl⟩
    have h1 := h.2
    rw [show (Nat.beq Q Q && (Nat.beq 14 10 || Nat.beq 14 14)) = true by rw [Nat.beq_refl Q]; rfl] at h1
    have h1 : (wmem (Q, 99) V || wmem (Q, 98) V) = true := h1
    rw [Bool.or_eq_true] at h1
    rcases h1 with h1 | h1
    · exact n (wmem_ok h1)
    · exact n' (wmem_ok h1)
theorem FVq_r {V : List (Nat × Nat)} {Q a i : Nat} {s : zS} {x : Int32} (h : rwQ Q a V = true) : FVq V Q s (zr s a i x) := by
  unfold rwQ at h
  rw [Bool.and_eq_true] at h
  refine ⟨fun n => ⟨fun b hb => ⟨?_, rfl⟩, fun _ _ => rfl⟩, fun n n' => ⟨fun b hb => ?_, rfl, rfl⟩⟩
  · show (if b = a then upd (s.2 a) i x else s.2 b) = s.2 b
    rw [if_neg]
    rintro rfl
    have h1 := h.1
    rw [hb] at h1
    exact n (wmem_ok h1)
  · show (if b = a then upd (s.2 a) i x else s.2 b) = s.2 b
    rw [if_neg]
    rintro rfl
    have h1 := h.2
    rw [hb] at h1
    have h1 : (wmem (Q, 99) V || wmem (Q, 98) V) = true := h1
    rw [Bool.or_eq_true] at h1
    rcases h1 with h1 | h1
    · exact n (wmem_ok h1)
    · exact n' (wmem_ok h1)
theorem FVz_f {V : List (Nat × Nat)} {a k : Nat} {s : zS} {x : Int32} (h : rfK a k V = true) : FVz V s (zf s a k x) := by
  unfold rfK at h
  rw [Bool.and_eq_true, Bool.and_eq_true] at h
  exact ⟨FVq_f h.1.1, FVq_f h.1.2, FVo_f h.2⟩
theorem FVz_r {V : List (Nat × Nat)} {a i : Nat} {s : zS} {x : Int32} (h : rwK a V = true) : FVz V s (zr s a i x) := by
  unfold rwK at h
  rw [Bool.and_eq_true, Bool.and_eq_true, Bool.and_eq_true] at h
  exact ⟨FVq_r h.1.1.1, FVq_r h.1.1.2, FVo_r h.1.2⟩
theorem FVz_t {V : List (Nat × Nat)} {a : Nat} {s : zS} {x v : Int32} (h : rwK a V = true) : FVz V s (zt s a x v) := by
  unfold zt
  split
  · exact FVz_r h
  · exact FVz_rf
theorem FVz_a {V : List (Nat × Nat)} {a : Nat} {s : zS} {v : Int32} (h : rwK a V = true) : FVz V s (za s a v) := by
  unfold za
  split
  · refine FVz_tr (FVz_r h) (FVz_f ?_)
    unfold rwK at h
    rw [Bool.and_eq_true] at h
    exact h.2
  · exact FVz_rf
/-- kept, and whether a program is loaded: how they may be written -/
def kwx (a k : Nat) (x : Int32) (w : zW) (s : zS) : Prop := (¬ (a = 3 ∧ k = 10) ∧ ¬ (a = 39 ∧ k = 10) ∧ ¬ (a = 0 ∧ k = 11) ∧ ¬ (a = 0 ∧ k = 9)) ∨ (((a = 3 ∨ a = 39) ∧ k = 10) ∧ 18 ≤ x.toInt) ∨ ((a = 0 ∧ k = 11) ∧ ∃ Q, (Q = 3 ∨ Q = 39) ∧ (0, 9, Q) ∈ w ∧ 18 ≤ (s.1 Q 10).toInt)
theorem kz_if {Q : Nat} (hQ : Q = 3 ∨ Q = 39) : isIf Q 10 = true := by
  rcases hQ with rfl | rfl <;> decide +kernel
theorem kl_put {a k : Nat} {x : Int32} {w : zW} {s : zS} {hh hh' : xH} (hkl : kwx a k x w s) (e1 : ∀ b q, ¬ (b = a ∧ q = k) → fld hh' b q = fld hh b q) (e2 : fld hh' a k = some (.int x)) (hI : INV hh) (hq : zQ w hh s) : KLh hh hh' := by
  rcases hkl with ⟨g1, g2, g3, g4⟩ | ⟨⟨g1, g2⟩, g3⟩ | ⟨⟨g1, g2⟩, Q, g3, g4, g5⟩
  · exact KL_eq (e1 3 10 (fun z => g1 ⟨z.1.symm, z.2.symm⟩)) (e1 39 10 (fun z => g2 ⟨z.1.symm, z.2.symm⟩)) (e1 0 9 (fun z => g4 ⟨z.1.symm, z.2.symm⟩)) (e1 0 11 (fun z => g3 ⟨z.1.symm, z.2.symm⟩)) hI
  · subst g2
    have k : ∀ Q, kOK hh Q → kOK hh' Q := fun Q q => by
      obtain ⟨y, y1, y2⟩ := q
      by_cases e : Q = a
      · exact ⟨x, by rw [e]; exact e2, g3⟩
      · exact ⟨y, (e1 Q 10 (fun z => e z.1)).trans y1, y2⟩
    refine ⟨fun Q _ q => k Q q, fun q => ?_⟩
    rcases q with q | q
    · exact Or.inl ((e1 0 11 (fun z => absurd z.2 (by decide))).trans q)
    · exact Or.inr (fun Q hQ => k Q (q Q (by rw [← e1 0 9 (fun z => absurd z.2 (by decide))]; exact hQ)))
  · subst g2 g1
    refine ⟨fun Q _ q => ?_, fun _ => Or.inr (fun Q' hQ' => ?_)⟩
    · obtain ⟨y, y1, y2⟩ := q
      exact ⟨y, (e1 Q 10 (fun z => absurd z.2 (by decide))).trans y1, y2⟩
    · rw [e1 0 9 (fun z => absurd z.2 (by decide)), hq.2 _ g4] at hQ'
      cases hQ'
      exact ⟨s.1 Q 10, by rw [e1 Q 10 (fun z => absurd z.2 (by decide))]; exact hq.1.1 Q 10 (kz_if g3), g5⟩
theorem zn_putI {a ci k t : Nat} {x : Int32} {lo hi : Int} (hf : xIt L ml ret false E pc i len r = xPut ci k t) (ha : cOK a = true) (hc : oc a = ci) (hk : (fk a)[k]? = some (.inl (lo, hi))) (hv : lo ≤ x.toInt ∧ x.toInt ≤ hi) (ht : xfT t (.int x) = true) (h6 : (Nat.beq ci 6 && Nat.ble k 1) = false) (hw : nwL a k w = true) (g : Zn d W V w w' L ml ret E r rl st (zf s a k x) P) (hkl : kwx a k x w s := by exact Or.inl (by decide)) (hrw : rfK a k V = true := by rfl) : Zn d W V w w' L ml ret E ((pc, i, len) :: r) rl (.int x :: .ref a :: st) s P := by
  refine zn_putG (v := .int x) hf ha hc hk ⟨x, rfl, hv.1, hv.2⟩ ht h6 (fun e => ?_) (fun hh hh' e1 e2 e3 hq => ⟨⟨fun b q hb => ?_, fun b hb j => ?_⟩, fun p hp => (e1 _ _ (nwL_ok hw hp)).trans (hq.2 p hp)⟩) (fun hh hh' e1 e2 hI hq => kl_put hkl e1 e2 hI hq) (FVz_f hrw) g
  · unfold isRf at e
    rw [hk, Bool.and_eq_true] at e
    cases e.2
  · by_cases e : b = a ∧ q = k
    · rw [e.1, e.2, e2]
      show _ = some (Value.int (if a = a ∧ k = k then x else s.1 a k))
      rw [if_pos ⟨rfl, rfl⟩]
    · rw [e1 b q e, hq.1.1 b q hb]
      show _ = some (Value.int (if b = a ∧ q = k then x else s.1 b q))
      rw [if_neg e]
  · rw [e3 b hb j]
    exact hq.1.2 b hb j
/-- a reference is written -/
theorem zn_putR {a ci k t b : Nat} {S : List Nat} (hf : xIt L ml ret false E pc i len r = xPut ci k t) (ha : cOK a = true) (hc : oc a = ci) (hk : (fk a)[k]? = some (.inr (.inl S))) (hv : cmem b S = true) (ht : xfT t (.ref b) = true) (h6 : (Nat.beq ci 6 && Nat.ble k 1) = false) (hU : wmem (a, k) W = true) (hw : nwL a k w = true) (g : Zn d W V ((a, k, b) :: w) w' L ml ret E r rl st s P) (hkr : ¬ (a = 0 ∧ k = 9) ∨ ((b = 3 ∨ b = 39) ∧ 18 ≤ (s.1 b 10).toInt) := by exact Or.inl (by decide)) : Zn d W V w w' L ml ret E ((pc, i, len) :: r) rl (.ref b :: .ref a :: st) s P := by
  refine zn_putG (v := .ref b) hf ha hc hk ⟨b, rfl, cmem_ok hv⟩ ht h6 (fun _ => wmem_ok hU) (fun hh hh' e1 e2 e3 hq => ⟨⟨fun b' q hb => ?_, fun b' hb j => (e3 b' hb j).trans (hq.1.2 b' hb j)⟩, fun p hp => ?_⟩) (fun hh hh' e1 e2 hI hq => ?_) FVz_rf g
  · rw [e1 b' q (fun e => ?_)]
    · exact hq.1.1 b' q hb
    · rw [e.1, e.2] at hb
      unfold isIf at hb
      rw [hk, Bool.and_eq_true] at hb
      cases hb.2
  · rcases List.mem_cons.mp hp with rfl | hp
    · exact e2
    · exact (e1 _ _ (nwL_ok hw hp)).trans (hq.2 p hp)
  · have n1 : ¬ (a = 3 ∧ k = 10) := fun z => by
      rw [z.1, z.2, show (fk 3)[10]? = some (.inl (0, 2000000000)) by decide +kernel] at hk
      cases hk
    have n2 : ¬ (a = 39 ∧ k = 10) := fun z => by
      rw [z.1, z.2, show (fk 39)[10]? = some (.inl (0, 2000000000)) by decide +kernel] at hk
      cases hk
    have n3 : ¬ (a = 0 ∧ k = 11) := fun z => by
      rw [z.1, z.2, show (fk 0)[11]? = some (.inl (0, 1)) by decide +kernel] at hk
      cases hk
    rcases hkr with g | ⟨g1, g2⟩
    · exact KL_eq (e1 3 10 (fun z => n1 ⟨z.1.symm, z.2.symm⟩)) (e1 39 10 (fun z => n2 ⟨z.1.symm, z.2.symm⟩)) (e1 0 9 (fun z => g ⟨z.1.symm, z.2.symm⟩)) (e1 0 11 (fun z => n3 ⟨z.1.symm, z.2.symm⟩)) hI
    · by_cases g : a = 0 ∧ k = 9
      · refine ⟨fun Q hQ q => ?_, fun _ => Or.inr (fun Q' hQ' => ?_)⟩
        · obtain ⟨y, y1, y2⟩ := q
          exact ⟨y, (e1 Q 10 (fun z => absurd (z.2.trans g.2) (by decide))).trans y1, y2⟩
        · rw [← g.1, ← g.2, e2] at hQ'
          cases hQ'
          exact ⟨s.1 b 10, by rw [e1 b 10 (fun z => absurd (z.2.trans g.2) (by decide))]; exact hq.1.1 b 10 (kz_if g1), g2⟩
      · exact KL_eq (e1 3 10 (fun z => n1 ⟨z.1.symm, z.2.symm⟩)) (e1 39 10 (fun z => n2 ⟨z.1.symm, z.2.symm⟩)) (e1 0 9 (fun z => g ⟨z.1.symm, z.2.symm⟩)) (e1 0 11 (fun z => n3 ⟨z.1.symm, z.2.symm⟩)) hI
/-! Rows -/
theorem zI_set {a : Nat} {x v : Int32} {h h' : xH} {cs sl : Nat} (hI : INV h) (ha : a ∈ rowL) (hz : zI h s) (hc : CST [(wc a, 1)] h h' cs sl) (hr : rvP a x v h h') (hx : wkx a x) (hy : skS a v) : zI h' (zt s a x v) ∧ CSX [] h h' cs sl := by
  refine ⟨⟨fun b q hb => ?_, fun b hb j => ?_⟩, hc.1, ⟨hc.2.1.1.1, fun b q hb _ => hc.2.1.2 b q (isRf_lt hb) (row_k ha (isRf_lt hb) (fun _ => by rw [hb, Bool.or_true]))⟩, hc.2.2.1, hc.2.2.2, fun b hb j hj => by rw [hr b (wk_row hb) j, if_neg (fun w => wk_no hx hb hj w)], fun b hb hk j => by
    rw [hr b hb j]
    split
    · rename_i w
      exact Or.inr (by rw [w.1] at hk ⊢; exact hy hk)
    · exact Or.inl rfl, KL_eq (hc.2.1.2 3 10 (by decide) (row_k ha (by decide) (fun e => absurd e (by decide)))) (hc.2.1.2 39 10 (by decide) (row_k ha (by decide) (fun e => absurd e (by decide)))) (hc.2.1.2 0 9 (by decide) (row_k ha (by decide) (fun e => absurd e (by decide)))) (hc.2.1.2 0 11 (by decide) (row_k ha (by decide) (fun e => absurd e (by decide)))) hI⟩
  · rw [hc.2.1.2 b q (isIf_lt hb) (row_k ha (isIf_lt hb) (fun _ => by rw [hb]; rfl)), hz.1 b q hb]
    unfold zt
    split <;> rfl
  · rw [hr b hb j, hz.2 b hb j]
    unfold zt
    by_cases hx : 0 ≤ x.toInt ∧ x.toInt < (lim a : Int)
    · rw [if_pos hx]
      show _ = (if b = a then upd (s.2 a) x.toInt.toNat v else s.2 b) j
      by_cases eb : b = a
      · rw [if_pos eb, eb]
        unfold upd
        by_cases ej : j = x.toInt.toNat
        · rw [if_pos ⟨rfl, hx, ej⟩, if_pos ej]
        · rw [if_neg (fun w => ej w.2.2), if_neg ej]
      · rw [if_neg (fun w => eb w.1), if_neg eb]
    · rw [if_neg hx, if_neg (fun w => hx w.2.1)]
theorem zrf_ok {U : List (Nat × Nat)} {h h' : xH} {cs sl : Nat} (hc : CSX U h h' cs sl) (hw : (w.all (fun p => isRf p.1 p.2.1 && !(wmem (p.1, p.2.1) U))) = true) {s' : zS} (hz : zI h' s') (hq : zQ w h s) : zQ w h' s' := by
  refine ⟨hz, fun p hp => ?_⟩
  have := List.all_eq_true.mp hw p hp
  rw [Bool.and_eq_true] at this
  refine (hc.2.1.2 p.1 p.2.1 this.1 (wmem_no ?_)).trans (hq.2 p hp)
  cases hb : wmem (p.1, p.2.1) U with
  | false => rfl
  | true => rw [hb] at this; cases this.2
theorem zn_row (x : Int32) (st' : List Value) {a n : Nat} {ci : Option Nat} {d' : Nat} (hd : d = d' + 1) (hf : xIt L ml ret false E pc i len r = xCall 76 n ci) (hst : st = .int x :: .ref a :: st') (hn : (Nat.beq 2 n && (Nat.ble (xcs st') 8 && crc ci [.ref a, .int x])) = true) (ha : cmem a rowL = true) (g : Zn d W V w w' L ml ret E r rl (.int (zg s a x) :: st') s P) : Zn d W V w w' L ml ret E ((pc, i, len) :: r) rl st s P := by
  subst hd
  refine zn_gen hf (fun hh hI hs => ?_)
  have hr := cmem_ok ha
  have e := y_76z (d := d') (x := x) hI hr
  have ev : (if 0 ≤ x.toInt then rv hh a x.toInt.toNat else 0) = zg s a x := by
    unfold zg
    rw [hs.1.2 a hr]
  rw [ev] at e
  exact ⟨hh, 0, 0, w, s, _, CSY_rf hI, hs, g, xCall_of hI (vs := [.ref a, .int x]) hst hn e⟩
theorem zn_set (x v : Int32) (st' : List Value) {a n : Nat} {ci : Option Nat} {d' : Nat} (hd : d = d' + 2) (hf : xIt L ml ret false E pc i len r = xCall 77 n ci) (hst : st = .int v :: .int x :: .ref a :: st') (hn : (Nat.beq 3 n && (Nat.ble (xcs st') 8 && crc ci [.ref a, .int x, .int v])) = true) (ha : cmem a rowL = true) (hv : (ckR a).1 ≤ v.toInt ∧ v.toInt ≤ (ckR a).2) (hc : cod a = false) (hw : (w.all (fun p => isRf p.1 p.2.1 && !(wmem (p.1, p.2.1) []))) = true) (g : Zn d W V w w' L ml ret E r rl st' (zt s a x v) P) (hx : wkx a x := by exact Or.inl (by decide)) (hy : skS a v := by exact fun q => absurd q (by decide)) (hrw : rwK a V = true := by rfl) : Zn d W V w w' L ml ret E ((pc, i, len) :: r) rl st s P := by
  subst hd
  refine zn_gen hf (fun hh hI hs => ?_)
  have hr := cmem_ok ha
  obtain ⟨h', cs, sl, e1, e2, e3⟩ := y_77z (d := d') (x := x) (v := v) hI hr hv (fun q => by rw [hc] at q; cases q)
  obtain ⟨q1, q2⟩ := zI_set hI hr hs.1 e2 e3 hx hy
  exact ⟨h', cs, sl, w, _, st', ⟨CSX_mo q2 (fun _ w => absurd w List.not_mem_nil), FVz_t hrw⟩, zrf_ok q2 hw q1 hs, g, xCall_of hI (vs := [.ref a, .int x, .int v]) hst hn e1⟩
theorem zn_add (v : Int32) (st' : List Value) {a n : Nat} {ci : Option Nat} {d' : Nat} (hd : d = d' + 3) (hf : xIt L ml ret false E pc i len r = xCall 78 n ci) (hst : st = .int v :: .ref a :: st') (hn : (Nat.beq 2 n && (Nat.ble (xcs st') 8 && crc ci [.ref a, .int v])) = true) (ha : cmem a rowL = true) (hv : (ckR a).1 ≤ v.toInt ∧ v.toInt ≤ (ckR a).2) (hc : cod a = true → (s.1 a 2).toInt < (lim a : Int) → (s.1 a 2).toInt % 2 = 0 → v.toInt < 2147483647) (hw : (w.all (fun p => isRf p.1 p.2.1 && !(wmem (p.1, p.2.1) []))) = true) (g : Zn d W V w w' L ml ret E r rl st' (za s a v) P) (hx : ¬ a = 21 ∧ ¬ a = 57 := by decide) (hy : skS a v := by exact fun q => absurd q (by decide)) (hrw : rwK a V = true := by rfl) : Zn d W V w w' L ml ret E ((pc, i, len) :: r) rl st s P := by
  subst hd
  refine zn_gen hf (fun hh hI hs => ?_)
  have hr := cmem_ok ha
  have hL := (fk_row a hr).2.1
  have eL := iN (n := lim a) (by omega)
  have hz : fld hh a 2 = some (.int (s.1 a 2)) := hs.1.1 a 2 (by
    unfold isIf
    rw [fk_2 a hr]
    have := rowL_6 a hr
    have := (fk_row a hr).2.2
    rw [show Nat.blt a 213 = true from Nat.ble_eq_true_of_le this, rowL_6 a hr]
    rfl)
  obtain ⟨h', cs, sl, e1, e2, e4, e3, e5⟩ := y_78z (d := d') (v := v) hI hr hz hv hc
  obtain ⟨c0, n0, f0, z0, p1, -⟩ := row_of hI hr
  obtain ⟨z1, z2, z3, z4⟩ := row_z hI hr p1
  have hz0 : 0 ≤ (s.1 a 2).toInt := by
    unfold fld at hz
    rw [p1] at hz
    have hz : z0 = .int (s.1 a 2) := Option.some.inj hz
    rw [z2] at hz
    rw [← Value.int.inj hz]
    exact z3
  have q1 : zI h' (za s a v) := by
    refine ⟨fun b q hb => ?_, fun b hb j => ?_⟩
    · by_cases eb : b = a ∧ q = 2
      · rw [eb.1, eb.2, e4]
        unfold za
        by_cases hl : (s.1 a 2).toInt < (lim a : Int)
        · rw [if_pos hl, if_pos ((i_lt rfl eL).mpr hl)]
          show _ = some (Value.int (if a = a ∧ 2 = 2 then s.1 a 2 + 1 else _))
          rw [if_pos ⟨rfl, rfl⟩]
        · rw [if_neg hl, if_neg (mt (i_lt rfl eL).mp hl)]
      · rw [e5 b q (isIf_lt hb) (fun _ => by rw [hb]; rfl) eb, hs.1.1 b q hb]
        unfold za
        split
        · show _ = some (Value.int (if b = a ∧ q = 2 then _ else s.1 b q))
          rw [if_neg eb]
        · rfl
    · rw [e3 b hb j, hs.1.2 b hb j]
      unfold za
      by_cases hl : (s.1 a 2).toInt < (lim a : Int)
      · rw [if_pos hl]
        show _ = (if b = a then upd (s.2 a) (s.1 a 2).toInt.toNat v else s.2 b) j
        by_cases eb : b = a
        · rw [if_pos eb, eb]
          unfold upd
          by_cases ej : j = (s.1 a 2).toInt.toNat
          · rw [if_pos ⟨rfl, ⟨hz0, hl⟩, ej⟩, if_pos ej]
          · rw [if_neg (fun w => ej w.2.2), if_neg ej]
        · rw [if_neg (fun w => eb w.1), if_neg eb]
      · rw [if_neg hl, if_neg (fun w => hl w.2.1.2)]
  have q2 : CSX [] hh h' cs sl := ⟨e2.1, ⟨e2.2.1.1.1, fun b q hb _ => e5 b q (isRf_lt hb) (fun _ => by rw [hb, Bool.or_true]) (fun w => by
    rw [w.1, w.2] at hb
    unfold isRf at hb
    rw [fk_2 a hr, Bool.and_eq_true] at hb
    cases hb.2)⟩, e2.2.2.1, e2.2.2.2, fun b hb j _ => by
    rw [e3 b (wk_row hb) j, if_neg (fun w => ?_)]
    rcases hb with e | e
    · exact hx.1 (w.1.symm.trans e)
    · exact hx.2 (w.1.symm.trans e), fun b hb hk j => by
    rw [e3 b hb j]
    split
    · rename_i w
      exact Or.inr (by rw [w.1] at hk ⊢; exact hy hk)
    · exact Or.inl rfl, KL_eq (e5 3 10 (by decide) (fun e => absurd e (by decide)) (fun e => absurd e.2 (by decide))) (e5 39 10 (by decide) (fun e => absurd e (by decide)) (fun e => absurd e.2 (by decide))) (e5 0 9 (by decide) (fun e => absurd e (by decide)) (fun e => absurd e.2 (by decide))) (e5 0 11 (by decide) (fun e => absurd e (by decide)) (fun e => absurd e.2 (by decide))) hI⟩
  exact ⟨h', cs, sl, w, _, st', ⟨CSX_mo q2 (fun _ w => absurd w List.not_mem_nil), FVz_a hrw⟩, zrf_ok q2 hw q1 hs, g, xCall_of hI (vs := [.ref a, .int v]) hst hn e1⟩
/-- a call that keeps references; c: what it must know of them -/
def Zt (d : Nat) (c : zW) (j : Nat) (vs : List Value) (s : zS) (P : Option Value → zS → Prop) : Prop :=
  ∀ hh, INV hh → zQ c hh s → ∃ (v : Option Value) (h' : xH) (cs sl : Nat) (s' : zS), P v s' ∧ zI h' s' ∧ CSY [] (wrt c j vs) s s' hh h' cs sl ∧ yex d j vs hh = some (v, h', cs, sl)
/-- a call that writes the references U; c': what is known of them behind it -/
def Zu (d : Nat) (U : List (Nat × Nat)) (c c' : zW) (j : Nat) (vs : List Value) (s : zS) (P : Option Value → zS → Prop) : Prop :=
  ∀ hh, INV hh → zQ c hh s → ∃ (v : Option Value) (h' : xH) (cs sl : Nat) (s' : zS), P v s' ∧ zQ c' h' s' ∧ CSY U (wrt c j vs) s s' hh h' cs sl ∧ yex d j vs hh = some (v, h', cs, sl)
theorem zn_zt (vs st' : List Value) {c : zW} {j n : Nat} {ci : Option Nat} (hf : xIt L ml ret false E pc i len r = xCall j n ci) (hst : st = vs.reverse ++ st') (hn : (Nat.beq vs.length n && (Nat.ble (xcs st') 8 && crc ci vs)) = true) (hc : s3 w c = true) (hw : (w.all (fun p => isRf p.1 p.2.1 && !(wmem (p.1, p.2.1) []))) = true) (g : Zt d c j vs s (fun v s1 => Zn d W V w w' L ml ret E r rl (v.toList ++ st') s1 P)) (hrw : wsub (wrt c j vs) V = true := by rfl) : Zn d W V w w' L ml ret E ((pc, i, len) :: r) rl st s P := by
  refine zn_gen hf (fun hh hI hs => ?_)
  obtain ⟨v, h', cs1, sl1, s1, g1, g2, g3, g4⟩ := g hh hI (zQ_wk hc hs)
  exact ⟨h', cs1, sl1, w, s1, _, ⟨CSX_mo g3.1 (fun _ w => absurd w List.not_mem_nil), FVz_mo g3.2 (fun q hq => wsub_ok hrw hq)⟩, zrf_ok g3.1 hw g2 hs, g1, xCall_of hI hst hn g4⟩
theorem zn_zu (vs st' : List Value) {U : List (Nat × Nat)} {c c' w1 : zW} {j n : Nat} {ci : Option Nat} (hf : xIt L ml ret false E pc i len r = xCall j n ci) (hst : st = vs.reverse ++ st') (hn : (Nat.beq vs.length n && (Nat.ble (xcs st') 8 && crc ci vs)) = true) (hc : s3 w c = true) (hU : wsub U W = true) (hw : (w1.all (fun p => isRf p.1 p.2.1 && !(wmem (p.1, p.2.1) U))) = true) (hw1 : s3 w w1 = true) (g : Zu d U c c' j vs s (fun v s1 => Zn d W V (c' ++ w1) w' L ml ret E r rl (v.toList ++ st') s1 P)) (hrw : wsub (wrt c j vs) V = true := by rfl) : Zn d W V w w' L ml ret E ((pc, i, len) :: r) rl st s P := by
  refine zn_gen hf (fun hh hI hs => ?_)
  obtain ⟨v, h', cs1, sl1, s1, g1, g2, g3, g4⟩ := g hh hI (zQ_wk hc hs)
  refine ⟨h', cs1, sl1, c' ++ w1, s1, _, ⟨CSX_mo g3.1 (fun q hq => wsub_ok hU hq), FVz_mo g3.2 (fun q hq => wsub_ok hrw hq)⟩, ⟨g2.1, fun p hp => ?_⟩, g1, xCall_of hI hst hn g4⟩
  rcases List.mem_append.mp hp with hp | hp
  · exact g2.2 p hp
  · exact (zrf_ok g3.1 hw g2.1 (zQ_wk hw1 hs)).2 p hp
end ZN
theorem Zt.imp {d : Nat} {c : zW} {j : Nat} {vs : List Value} {s : zS} {P Q : Option Value → zS → Prop} (h : Zt d c j vs s P) (hq : ∀ v s', P v s' → Q v s') : Zt d c j vs s Q := by
  intro hh hI hw
  obtain ⟨v, h', cs, sl, s', h1, h2⟩ := h hh hI hw
  exact ⟨v, h', cs, sl, s', hq v s' h1, h2⟩
theorem Zt.mo {d d' : Nat} {c : zW} {j : Nat} {vs : List Value} {s : zS} {P : Option Value → zS → Prop} (hd : d ≤ d') (h : Zt d c j vs s P) : Zt d' c j vs s P := by
  intro hh hI hw
  obtain ⟨v, h', cs, sl, s', h1, h2, h3, h4⟩ := h hh hI hw
  exact ⟨v, h', cs, sl, s', h1, h2, h3, yex_mono hd j vs hh _ h4⟩
theorem Zu.imp {d : Nat} {U : List (Nat × Nat)} {c c' : zW} {j : Nat} {vs : List Value} {s : zS} {P Q : Option Value → zS → Prop} (h : Zu d U c c' j vs s P) (hq : ∀ v s', P v s' → Q v s') : Zu d U c c' j vs s Q := by
  intro hh hI hw
  obtain ⟨v, h', cs, sl, s', h1, h2⟩ := h hh hI hw
  exact ⟨v, h', cs, sl, s', hq v s' h1, h2⟩
theorem Zu.mo {d d' : Nat} {U : List (Nat × Nat)} {c c' : zW} {j : Nat} {vs : List Value} {s : zS} {P : Option Value → zS → Prop} (hd : d ≤ d') (h : Zu d U c c' j vs s P) : Zu d' U c c' j vs s P := by
  intro hh hI hw
  obtain ⟨v, h', cs, sl, s', h1, h2, h3, h4⟩ := h hh hI hw
  exact ⟨v, h', cs, sl, s', h1, h2, h3, yex_mono hd j vs hh _ h4⟩
/-- kept stays behind the first words -/
theorem kp_z {P : Nat} {h h' : xH} {s s' : zS} (hP : P = 3 ∨ P = 39) (hk : KLh h h') (hz : zI h s) (hz' : zI h' s') (h18 : 18 ≤ (s.1 P 10).toInt) : 18 ≤ (s'.1 P 10).toInt := by
  obtain ⟨y, y1, y2⟩ := hk.1 P hP ⟨s.1 P 10, hz.1 P 10 (kz_if hP), h18⟩
  rw [hz'.1 P 10 (kz_if hP)] at y1
  rw [Value.int.inj (Option.some.inj y1)]
  exact y2
theorem Zt.kp {d P : Nat} {c : zW} {j : Nat} {vs : List Value} {s : zS} {Q : Option Value → zS → Prop} (h : Zt d c j vs s Q) (hP : P = 3 ∨ P = 39) (hS : 18 ≤ (s.1 P 10).toInt) : Zt d c j vs s (fun v s' => Q v s' ∧ 18 ≤ (s'.1 P 10).toInt) := fun hh hI hq => by
  obtain ⟨v, h', cs, sl, s', p1, p2, p3, p4⟩ := h hh hI hq
  exact ⟨v, h', cs, sl, s', ⟨p1, kp_z hP p3.1.2.2.2.2.2.2 hq.1 p2 hS⟩, p2, p3, p4⟩
theorem Zu.kp {d P : Nat} {U : List (Nat × Nat)} {c c' : zW} {j : Nat} {vs : List Value} {s : zS} {Q : Option Value → zS → Prop} (h : Zu d U c c' j vs s Q) (hP : P = 3 ∨ P = 39) (hS : 18 ≤ (s.1 P 10).toInt) : Zu d U c c' j vs s (fun v s' => Q v s' ∧ 18 ≤ (s'.1 P 10).toInt) := fun hh hI hq => by
  obtain ⟨v, h', cs, sl, s', p1, p2, p3, p4⟩ := h hh hI hq
  exact ⟨v, h', cs, sl, s', ⟨p1, kp_z hP p3.1.2.2.2.2.2.2 hq.1 p2.1 hS⟩, p2, p3, p4⟩
theorem zu_of {d i ml : Nat} {W V : List (Nat × Nat)} {w w' : zW} {L : xLD} {vs : List Value} {s : zS} {P : Option Value → zS → Prop} {M : xM} {E : xCd} {ret : Option FieldType} (hM : xsg i = some M) (hF : xpr i = some (xmk L ml ret false E E)) (hl : Nat.ble (lg_sl vs).length M.2.2.1 = true) (g : Zn d W V w w' L ml ret E E (yin ml vs) [] s P) (hV : V = wrt w i vs := by rfl) : Zu (d + 1) W w w' i vs s P := by
  subst hV
  intro hh hI hw
  obtain ⟨n, v, h', cs, sl, s', h1, h2, h3, h4⟩ := g hh hI hw
  refine ⟨v, h', cs, sl, s', h1, h2, h3, yex_of (k := n) hM hF hl ?_⟩
  have := h4 (lv_args 0 vs) 0 0 yL_entry
  rw [Nat.zero_add, Nat.zero_add] at this
  exact this
theorem zt_of {d i ml : Nat} {V : List (Nat × Nat)} {w w' : zW} {L : xLD} {vs : List Value} {s : zS} {P : Option Value → zS → Prop} {M : xM} {E : xCd} {ret : Option FieldType} (hM : xsg i = some M) (hF : xpr i = some (xmk L ml ret false E E)) (hl : Nat.ble (lg_sl vs).length M.2.2.1 = true) (g : Zn d [] V w w' L ml ret E E (yin ml vs) [] s P) (hV : V = wrt w i vs := by rfl) : Zt (d + 1) w i vs s P := by
  intro hh hI hw
  obtain ⟨v, h', cs, sl, s', h1, h2, h3, h4⟩ := zu_of hM hF hl g hV hh hI hw
  exact ⟨v, h', cs, sl, s', h1, h2.1, h3, h4⟩
/-- what a call does not write stays -/
theorem Zt.fr {d : Nat} {c : zW} {j : Nat} {vs : List Value} {s : zS} {Q : Option Value → zS → Prop} (h : Zt d c j vs s Q) : Zt d c j vs s (fun v s' => Q v s' ∧ FVz (wrt c j vs) s s') := fun hh hI hq => by
  obtain ⟨v, h', cs, sl, s', p1, p2, p3, p4⟩ := h hh hI hq
  exact ⟨v, h', cs, sl, s', ⟨p1, p3.2⟩, p2, p3, p4⟩
theorem Zu.fr {d : Nat} {U : List (Nat × Nat)} {c c' : zW} {j : Nat} {vs : List Value} {s : zS} {Q : Option Value → zS → Prop} (h : Zu d U c c' j vs s Q) : Zu d U c c' j vs s (fun v s' => Q v s' ∧ FVz (wrt c j vs) s s') := fun hh hI hq => by
  obtain ⟨v, h', cs, sl, s', p1, p2, p3, p4⟩ := h hh hI hq
  exact ⟨v, h', cs, sl, s', ⟨p1, p3.2⟩, p2, p3, p4⟩
