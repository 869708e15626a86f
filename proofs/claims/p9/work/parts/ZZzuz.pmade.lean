/-! ===== instances: pure ===== -/
/-- what is made: a TYPE (0), one of CALLS (1), one of METHODS (2): the TYPE, the METHOD or the func, the TYPES told -/
abbrev Mit : Type := Nat × List Int × Int × List (List Int)
/-- the TYPES that a row of code puts -/
def tlI (I : Ins) : List (List Int) := if I.1 = 2 ∨ I.1 = 6 then [I.2.1] else if I.1 = 5 then I.2.2.2.1 else []
/-- what code has, where η is put -/
def hsC (ar : Int → Int) (η : Nat → List Int) (C : List Ins) (x : Mit) : Prop := (∃ I ∈ C, ∃ A ∈ tlI I, ∃ i : Nat, i < (sbs η A).length ∧ x = (0, subT ar (sbs η A) i, 0, [])) ∨ ∃ I ∈ C, I.1 = 5 ∧ x = (1, sbs η I.2.1, I.2.2.2.2, I.2.2.2.1.map (sbs η))
/-- code that puts too great a TYPE -/
def grC (η : Nat → List Int) (C : List Ins) : Prop := ∃ I ∈ C, (∃ A ∈ tlI I, 60 < (sbs η A).length) ∨ (I.1 = 5 ∧ 60 < (sbs η I.2.1).length)
/-- sets that are closed; Cm: main's code; cd: a func's; fo: the func of a struct's METHOD; st: structs; mv: whether one TYPE meets another -/
def clM (ar : Int → Int) (Cm : List Ins) (cd : Int → List Ins) (fo : Int → Int → Int) (st : Int → Prop) (mv : List Int → List Int → Int) (S : Mit → Prop) : Prop := (∀ x, hsC ar (eta [] []) Cm x → S x) ∧ (∀ (t : List Int) (w : Int) (Ts : List (List Int)) (A : List Int), S (1, t, w, Ts) → S (0, A, 0, []) → st (A.headD 0) → mv A t = 0 → S (2, A, fo (A.headD 0) w, Ts)) ∧ ∀ (A : List Int) (f : Int) (Ts : List (List Int)) (x : Mit), S (2, A, f, Ts) → hsC ar (eta (argT ar A) Ts) (cd f) x → S x
/-- the least of them -/
def DrM (ar : Int → Int) (Cm : List Ins) (cd : Int → List Ins) (fo : Int → Int → Int) (st : Int → Prop) (mv : List Int → List Int → Int) (x : Mit) : Prop := ∀ S : Mit → Prop, clM ar Cm cd fo st mv S → S x
/-- they can't be made: a TYPE is too great -/
def BdM (ar : Int → Int) (Cm : List Ins) (cd : Int → List Ins) (fo : Int → Int → Int) (st : Int → Prop) (mv : List Int → List Int → Int) : Prop := grC (eta [] []) Cm ∨ (∃ (A : List Int) (f : Int) (Ts : List (List Int)), DrM ar Cm cd fo st mv (2, A, f, Ts) ∧ grC (eta (argT ar A) Ts) (cd f)) ∨ ∃ (t : List Int) (w : Int) (Ts : List (List Int)) (A : List Int), DrM ar Cm cd fo st mv (1, t, w, Ts) ∧ DrM ar Cm cd fo st mv (0, A, 0, []) ∧ st (A.headD 0) ∧ mv A t = 9
/-- how making them ends: ok, and what is there then -/
def MkO (Dr : Mit → Prop) (Bd : Prop) (cl : (Mit → Prop) → Prop) (ok : Prop) (l0 l1 l2 : List Mit) : Prop := ((l0.Nodup ∧ l1.Nodup ∧ l2.Nodup) ∧ (∀ x ∈ l0, x.1 = 0) ∧ (∀ x ∈ l1, x.1 = 1) ∧ ∀ x ∈ l2, x.1 = 2) ∧ (∀ x ∈ l0 ++ l1 ++ l2, Dr x) ∧ (ok → cl (fun x => x ∈ l0 ++ l1 ++ l2) ∧ ¬ Bd ∧ l0.length + l1.length + l2.length ≤ 150) ∧ (¬ ok → Bd ∨ 151 ≤ l0.length + l1.length + l2.length)
theorem nd_le {α : Type} : ∀ (l m : List α), l.Nodup → (∀ x ∈ l, x ∈ m) → l.length ≤ m.length
  | [], _, _, _ => Nat.zero_le _
  | a :: l, m, h, g => by
    obtain ⟨s, t, rfl⟩ := List.append_of_mem (g a List.mem_cons_self)
    have h2 := List.nodup_cons.mp h
    have ih := nd_le l (s ++ t) h2.2 (fun x hx => by
      rcases List.mem_append.mp (g x (List.mem_cons_of_mem _ hx)) with q | q
      · exact List.mem_append_left _ q
      · rcases List.mem_cons.mp q with e | q
        · rw [e] at hx
          exact absurd hx h2.1
        · exact List.mem_append_right _ q)
    rw [List.length_append] at ih
    rw [List.length_cons, List.length_append, List.length_cons]
    omega
theorem nd_eq {α : Type} {l m : List α} (hl : l.Nodup) (hm : m.Nodup) (h : ∀ x, x ∈ l ↔ x ∈ m) : l.length = m.length := Nat.le_antisymm (nd_le l m hl (fun x hx => (h x).mp hx)) (nd_le m l hm (fun x hx => (h x).mpr hx))
section ZUZ
variable {ar : Int → Int} {Cm : List Ins} {cd : Int → List Ins} {fo : Int → Int → Int} {st : Int → Prop} {mv : List Int → List Int → Int}
theorem DrM_c : clM ar Cm cd fo st mv (DrM ar Cm cd fo st mv) := ⟨fun x hx S hS => hS.1 x hx, fun t w Ts A h1 h0 hs hm S hS => hS.2.1 t w Ts A (h1 S hS) (h0 S hS) hs hm, fun A f Ts x h2 hx S hS => hS.2.2 A f Ts x (h2 S hS) hx⟩
/-- kinds keep apart -/
theorem MkO_k {Dr : Mit → Prop} {Bd : Prop} {cl : (Mit → Prop) → Prop} {ok : Prop} {l0 l1 l2 : List Mit} (h : MkO Dr Bd cl ok l0 l1 l2) {x : Mit} (hx : x ∈ l0 ++ l1 ++ l2) : (x.1 = 0 ∧ x ∈ l0) ∨ (x.1 = 1 ∧ x ∈ l1) ∨ (x.1 = 2 ∧ x ∈ l2) := by
  obtain ⟨⟨-, k0, k1, k2⟩, -⟩ := h
  rcases List.mem_append.mp hx with q | q
  · rcases List.mem_append.mp q with q | q
    · exact Or.inl ⟨k0 x q, q⟩
    · exact Or.inr (Or.inl ⟨k1 x q, q⟩)
  · exact Or.inr (Or.inr ⟨k2 x q, q⟩)
theorem MkO_nd {Dr : Mit → Prop} {Bd : Prop} {cl : (Mit → Prop) → Prop} {ok : Prop} {l0 l1 l2 : List Mit} (h : MkO Dr Bd cl ok l0 l1 l2) : (l0 ++ l1 ++ l2).Nodup := by
  obtain ⟨⟨⟨n0, n1, n2⟩, k0, k1, k2⟩, -⟩ := h
  refine List.nodup_append.mpr ⟨List.nodup_append.mpr ⟨n0, n1, fun a ha b hb e => ?_⟩, n2, fun a ha b hb e => ?_⟩
  · have e0 := k0 a ha
    have e1 := k1 b hb
    rw [e] at e0
    omega
  · have e2 := k2 b hb
    rcases List.mem_append.mp ha with q | q
    · have e0 := k0 a q
      rw [e] at e0
      omega
    · have e1 := k1 a q
      rw [e] at e1
      omega
/-- two makings end alike -/
theorem MkO_eq {ok ok' : Prop} {l0 l1 l2 m0 m1 m2 : List Mit} (h : MkO (DrM ar Cm cd fo st mv) (BdM ar Cm cd fo st mv) (clM ar Cm cd fo st mv) ok l0 l1 l2) (g : MkO (DrM ar Cm cd fo st mv) (BdM ar Cm cd fo st mv) (clM ar Cm cd fo st mv) ok' m0 m1 m2) : (ok ↔ ok') ∧ (ok → l0.length = m0.length ∧ l1.length = m1.length ∧ l2.length = m2.length) := by
  have key : ∀ (o o' : Prop) (a0 a1 a2 b0 b1 b2 : List Mit), MkO (DrM ar Cm cd fo st mv) (BdM ar Cm cd fo st mv) (clM ar Cm cd fo st mv) o a0 a1 a2 → MkO (DrM ar Cm cd fo st mv) (BdM ar Cm cd fo st mv) (clM ar Cm cd fo st mv) o' b0 b1 b2 → o → o' := by
    intro o o' a0 a1 a2 b0 b1 b2 p q ho
    obtain ⟨c1, c2, c3⟩ := p.2.2.1 ho
    refine Classical.byContradiction fun ho' => ?_
    rcases q.2.2.2 ho' with w | w
    · exact c2 w
    · have := nd_le _ _ (MkO_nd q) (fun x hx => q.2.1 x hx _ c1)
      rw [List.length_append, List.length_append, List.length_append, List.length_append] at this
      omega
  have hk := key _ _ _ _ _ _ _ _ h g
  have gk := key _ _ _ _ _ _ _ _ g h
  refine ⟨⟨hk, gk⟩, fun ho => ?_⟩
  have hc := (h.2.2.1 ho).1
  have gc := (g.2.2.1 (hk ho)).1
  have hx : ∀ x, x ∈ l0 ++ l1 ++ l2 ↔ x ∈ m0 ++ m1 ++ m2 := fun x => ⟨fun q => h.2.1 x q _ gc, fun q => g.2.1 x q _ hc⟩
  obtain ⟨⟨⟨n0, n1, n2⟩, k0, k1, k2⟩, -⟩ := id h
  obtain ⟨⟨⟨e0, e1, e2⟩, d0, d1, d2⟩, -⟩ := id g
  have in0 : ∀ (a b c : List Mit) (x : Mit), x ∈ a → x ∈ a ++ b ++ c := fun a b c x q => List.mem_append_left _ (List.mem_append_left _ q)
  have in1 : ∀ (a b c : List Mit) (x : Mit), x ∈ b → x ∈ a ++ b ++ c := fun a b c x q => List.mem_append_left _ (List.mem_append_right _ q)
  have in2 : ∀ (a b c : List Mit) (x : Mit), x ∈ c → x ∈ a ++ b ++ c := fun a b c x q => List.mem_append_right _ q
  have pk : ∀ {o : Prop} {a0 a1 a2 : List Mit}, MkO (DrM ar Cm cd fo st mv) (BdM ar Cm cd fo st mv) (clM ar Cm cd fo st mv) o a0 a1 a2 → ∀ x, x ∈ a0 ++ a1 ++ a2 → (x.1 = 0 → x ∈ a0) ∧ (x.1 = 1 → x ∈ a1) ∧ (x.1 = 2 → x ∈ a2) := fun p x q => by
    rcases MkO_k p q with ⟨w, w'⟩ | ⟨w, w'⟩ | ⟨w, w'⟩
    · exact ⟨fun _ => w', fun z => by omega, fun z => by omega⟩
    · exact ⟨fun z => by omega, fun _ => w', fun z => by omega⟩
    · exact ⟨fun z => by omega, fun z => by omega, fun _ => w'⟩
  refine ⟨nd_eq n0 e0 (fun x => ⟨fun q => (pk g x ((hx x).mp (in0 _ _ _ x q))).1 (k0 x q), fun q => (pk h x ((hx x).mpr (in0 _ _ _ x q))).1 (d0 x q)⟩), nd_eq n1 e1 (fun x => ⟨fun q => (pk g x ((hx x).mp (in1 _ _ _ x q))).2.1 (k1 x q), fun q => (pk h x ((hx x).mpr (in1 _ _ _ x q))).2.1 (d1 x q)⟩), nd_eq n2 e2 (fun x => ⟨fun q => (pk g x ((hx x).mp (in2 _ _ _ x q))).2.2 (k2 x q), fun q => (pk h x ((hx x).mpr (in2 _ _ _ x q))).2.2 (d2 x q)⟩)⟩
end ZUZ
