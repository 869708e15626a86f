/-! ===== the class: one instruction, by kinds ===== -/
abbrev cSg : Type := List cK × Option cK × List (Nat × Nat)
def aOK : List cK → List Value → Prop
  | [], [] => True
  | K :: A, v :: vs => qvK K v ∧ aOK A vs
  | _, _ => False
def rOK : Option cK → Option Value → Prop
  | none, v => v = none
  | some K, v => ∃ w, v = some w ∧ qvK K w
/-- what a method promises -/
def CTR (calls : xC) (j : Nat) (q : cSg) : Prop := ∀ (h : xH) (vs : List Value), INV h → aOK q.1 vs → ∃ v h' cs sl, calls j vs h = some (v, h', cs, sl) ∧ rOK q.2.1 v ∧ CST q.2.2 h h' cs sl
/-- which local changes; by how much (a store: by 0, that is: not known) -/
def chg : Instr → Option (Nat × Int)
  | .istore_n k => some (k, 0)
  | .istore k => some (k, 0)
  | .astore_n k => some (k, 0)
  | .astore k => some (k, 0)
  | .iinc k n => some (k, n)
  | _ => none
def cgd (c : Option (Nat × Int)) (loc loc' : cLoc) : Prop := ∀ (k : Nat) (x : Int32), xlk k loc = some (.int x) → match c with
  | none => xlk k loc' = some (.int x)
  | some q => (¬ k = q.1 → xlk k loc' = some (.int x)) ∧ (k = q.1 → ¬ q.2 = 0 → xlk k loc' = some (.int (x + Int32.ofInt q.2)))
def cStp (calls : xC) (f : xF) (W : List (Nat × Nat)) (c : Option (Nat × Int)) (n : Nat) (A : cA) (R : List (Nat × cA)) : Prop := ∀ (loc : cLoc) (st : List Value) (h : xH) (cs sl : Nat), INV h → mA A loc st → ∃ (o : Option Nat) (loc' : cLoc) (st' : List Value) (h' : xH) (cs' sl' t : Nat) (B : cA), f calls (loc, st, h, cs, sl) = some (.inl (o, (loc', st', h', cs + cs', sl + sl'))) ∧ (t, B) ∈ R ∧ t = o.getD (n + 1) ∧ mA B loc' st' ∧ CST W h h' cs' sl' ∧ cgd c loc loc'
section STP
variable {calls : xC} {W : List (Nat × Nat)} {n : Nat} {A : cA}
theorem cgd_rf {loc : cLoc} : cgd none loc loc := fun _ _ h => h
/-- the stack alone -/
theorem Stp_pure {op : List Value → Option (List Value)} {a : kS → Option kS} {S' : kS} (h : aSnd op a) (ha : a A.2.1 = some S') : cStp calls (xPure op) W none n A [(n + 1, (A.1, S', A.2.2))] := by
  intro loc st hh cs sl hI hm
  obtain ⟨m1, m2, m3, m4⟩ := hm
  obtain ⟨st', e, m5⟩ := h loc A.2.1 S' st ha m2
  refine ⟨none, loc, st', hh, 0, 0, n + 1, _, ?_, List.mem_cons_self, rfl, ⟨m1, m5, m3, m4⟩, CST_rf hI, cgd_rf⟩
  unfold xPure
  dsimp only
  rw [e]
  rfl
/-- loads -/
def kld : Nat → cK → Bool
  | 0, .inl (_, _) => true
  | 1, .inr (.inl _) => true
  | 1, (.inr (.inr (some false))) => true
  | 2, (.inr (.inr (some true))) => true
  | _, _ => false
def xis : Nat → Value → Bool
  | 0 => xisI
  | 1 => xisA
  | _ => xisL
def alk1 (c k : Nat) : Option Nat := match c with
  | 0 => some k
  | _ => none
def t_ld (c k n : Nat) (A : cA) : Option (List (Nat × cA)) := match A.1[k]? with
  | some K => match kld c K with
    | true => some [(n + 1, (A.1, (K, alk1 c k) :: A.2.1, A.2.2))]
    | false => none
  | none => none
theorem kld_ok {c : Nat} {K : cK} {v : Value} (h : kld c K = true) (hv : qvK K v) : xis c v = true := by
  rcases c with _ | _ | _ | c <;> cases K using cKe <;> first
    | (cases h; done)
    | (obtain ⟨x, rfl, -⟩ := hv; rfl)
    | (obtain ⟨x, rfl⟩ := hv; rfl)
theorem kld_u {c : Nat} {K : cK} (h : kld c K = true) : kU K = false := by
  rcases c with _ | _ | _ | c <;> cases K using cKe <;> first
    | (cases h; done)
    | rfl
theorem Stp_ld {c k : Nat} {R : List (Nat × cA)} (h : t_ld c k n A = some R) : cStp calls (xLd k (xis c)) W none n A R := by
  unfold t_ld at h
  cases hK : A.1[k]? with
  | none => rw [hK] at h; cases h
  | some K =>
    rw [hK] at h
    dsimp only at h
    cases hk : kld c K with
    | false => rw [hk] at h; cases h
    | true =>
      rw [hk] at h
      cases h
      intro loc st hh cs sl hI hm
      obtain ⟨m1, m2, m3, m4⟩ := hm
      obtain ⟨v, v1, v2⟩ := m1 k K hK (kld_u hk)
      refine ⟨none, loc, v :: st, hh, 0, 0, n + 1, _, ?_, List.mem_cons_self, rfl, ⟨m1, ⟨v2, fun q hq => ?_, m2⟩, m3, m4⟩, CST_rf hI, cgd_rf⟩
      · unfold xLd
        dsimp only
        rw [v1]
        dsimp only
        rw [kld_ok hk v2]
        rfl
      · unfold alk1 at hq
        split at hq
        · cases hq
          exact v1
        · cases hq
/-- stores -/
def kil (k : Nat) : kS → kS
  | [] => []
  | q :: S => (match q with
    | (.inl (a, b), some k') => match Nat.beq k' k with
      | true => (.inl (a, b), none)
      | false => q
    | (K, _) => (K, none)) :: kil k S
def kif (k : Nat) : List Nat → List Nat
  | [] => []
  | a :: l => match Nat.beq a k with
    | true => kif k l
    | false => a :: kif k l
theorem kif_ok {k a : Nat} : ∀ {l : List Nat}, a ∈ kif k l → a ∈ l ∧ ¬ a = k
  | [], h => absurd h List.not_mem_nil
  | b :: l, h => by
    unfold kif at h
    cases hb : Nat.beq b k with
    | true =>
      rw [hb] at h
      obtain ⟨h1, h2⟩ := kif_ok h
      exact ⟨List.mem_cons_of_mem _ h1, h2⟩
    | false =>
      rw [hb] at h
      rcases List.mem_cons.mp h with rfl | h
      · refine ⟨List.mem_cons_self, fun w => ?_⟩
        rw [w, Nat.beq_refl] at hb
        cases hb
      · obtain ⟨h1, h2⟩ := kif_ok h
        exact ⟨List.mem_cons_of_mem _ h1, h2⟩
theorem kil_ok {loc loc' : cLoc} {k : Nat} (hl : ∀ k' (x : Int32), ¬ k' = k → xlk k' loc = some (.int x) → xlk k' loc' = some (.int x)) : ∀ {S : kS} {st : List Value}, mS loc S st → mS loc' (kil k S) st
  | [], [], _ => trivial
  | [], v :: st, h => absurd h id
  | q :: S, [], h => absurd h id
  | q :: S, v :: st, h => by
    obtain ⟨h1, h2, h3⟩ := h
    have ih := kil_ok hl h3
    obtain ⟨K, o⟩ := q
    cases K using cKe with
    | i a b =>
      cases o with
      | none => exact ⟨h1, noAl, ih⟩
      | some k' =>
        cases hb : Nat.beq k' k with
        | true =>
          have e : kil k (((.inl (a, b)), some k') :: S) = (.inl (a, b), none) :: kil k S := by
            show (match Nat.beq k' k with
              | true => ((.inl (a, b) : cK), (none : Option Nat))
              | false => ((.inl (a, b) : cK), some k')) :: kil k S = _
            rw [hb]
          rw [e]
          exact ⟨h1, noAl, ih⟩
        | false =>
          have e : kil k (((.inl (a, b)), some k') :: S) = (.inl (a, b), some k') :: kil k S := by
            show (match Nat.beq k' k with
              | true => ((.inl (a, b) : cK), (none : Option Nat))
              | false => ((.inl (a, b) : cK), some k')) :: kil k S = _
            rw [hb]
          rw [e]
          refine ⟨h1, fun c hc => ?_, ih⟩
          obtain ⟨x, rfl, -⟩ := id h1
          have hc' : k' = c := Option.some.inj hc
          subst hc'
          exact hl k' x (fun w => by rw [w, Nat.beq_refl] at hb; cases hb) (h2 k' rfl)
    | u => exact ⟨trivial, noAl, ih⟩
    | j => exact ⟨h1, noAl, ih⟩
    | r T => exact ⟨h1, noAl, ih⟩
    | t => exact ⟨h1, noAl, ih⟩
/-- no long stands just ahead -/
def noj (L : List cK) : Nat → Bool
  | 0 => true
  | k + 1 => match L[k]? with
    | some (.inr (.inr (some true))) => false
    | some (.inr (.inr none)) => false
    | some _ => true
    | none => false
/-- what a place for a local of another place keeps -/
theorem lo_keep {loc : cLoc} {k : Nat} {v : Value} : ∀ (k' : Nat) (w : Value), ¬ k' = k → ¬ (k' + 1 = k ∧ w.category = 2) → xlk k' loc = some w → xlk k' ((k, v) :: xf1 k loc) = some w := fun k' w h1 h2 h3 => by
  rw [xlk_ne h1]
  exact xlk_f1 h1 loc w h3 h2
/-- longs do not stand beside -/
def nojA (L : List cK) (k : Nat) : Bool := match k with
  | 0 => true
  | k + 1 => match L.getD k (.inr (.inr none)) with
    | (.inr (.inr (some true))) => false
    | _ => true
theorem st_ok {loc : cLoc} {st : List Value} {k : Nat} {v : Value} {K : cK} {S : kS} (hm : mA A loc st) (hS : mS loc S st) (hj : nojA A.1 k = true) (hv : qvK K v) : mA (A.1.set k K, kil k S, kif k A.2.2.1, kif k A.2.2.2) ((k, v) :: xf1 k loc) st := by
  obtain ⟨m1, m2, m3, m4⟩ := hm
  have ki : ∀ k' (x : Int32), ¬ k' = k → xlk k' loc = some (.int x) → xlk k' ((k, v) :: xf1 k loc) = some (.int x) := fun k' x h1 h2 => lo_keep k' _ h1 (fun w => absurd w.2 (show ¬ (1 : Nat) = 2 by decide)) h2
  refine ⟨fun k' K' hk' hu => ?_, kil_ok ki hS, fun k' hk' => ?_, fun k' hk' => ?_⟩
  · rw [List.getElem?_set] at hk'
    by_cases e : k = k'
    · subst e
      rw [if_pos rfl] at hk'
      split at hk'
      · cases hk'
        exact ⟨v, xlk_cons, hv⟩
      · cases hk'
    · rw [if_neg e] at hk'
      obtain ⟨w, w1, w2⟩ := m1 k' K' hk' hu
      refine ⟨w, lo_keep k' w (Ne.symm e) (fun q => ?_) w1, w2⟩
      obtain ⟨q1, q2⟩ := q
      rw [← q1] at hj
      have hj : (match A.1.getD k' (.inr (.inr none)) with
        | (.inr (.inr (some true))) => false
        | _ => true) = true := hj
      rw [List.getD_eq_getElem?_getD, hk'] at hj
      cases K' using cKe with
      | u => cases hu
      | i a b => obtain ⟨x, rfl, -⟩ := w2; exact absurd q2 (show ¬ (1 : Nat) = 2 by decide)
      | j => cases hj
      | r T => obtain ⟨x, rfl, -⟩ := w2; exact absurd q2 (show ¬ (1 : Nat) = 2 by decide)
      | t => obtain ⟨x, rfl, -⟩ := w2; exact absurd q2 (show ¬ (1 : Nat) = 2 by decide)
  · obtain ⟨h1, h2⟩ := kif_ok hk'
    obtain ⟨x, x1, x2⟩ := m3 k' h1
    exact ⟨x, ki k' x h2 x1, x2⟩
  · obtain ⟨h1, h2⟩ := kif_ok hk'
    obtain ⟨x, x1, x2⟩ := m4 k' h1
    exact ⟨x, ki k' x h2 x1, x2⟩
def t_st (c k ml n : Nat) (A : cA) : Option (List (Nat × cA)) := match A.2.1 with
  | q :: S => match kld c q.1 && (Nat.blt k ml && nojA A.1 k) with
    | true => some [(n + 1, (A.1.set k q.1, kil k S, kif k A.2.2.1, kif k A.2.2.2))]
    | false => none
  | [] => none
theorem Stp_st {c k ml : Nat} {R : List (Nat × cA)} (h : t_st c k ml n A = some R) : cStp calls (xIf (Nat.blt k ml) (xSt k (xis c) xf1)) W (some (k, 0)) n A R := by
  unfold t_st at h
  split at h
  · rename_i q S hS
    split at h
    · rename_i hb
      cases h
      rw [Bool.and_eq_true, Bool.and_eq_true] at hb
      intro loc st hh cs sl hI hm
      obtain ⟨m1, m2, m3, m4⟩ := id hm
      rw [hS] at m2
      cases st with
      | nil => exact absurd m2 id
      | cons v st =>
        obtain ⟨v1, v2, m2⟩ := m2
        have hm' : mA (A.1, S, A.2.2) loc st := ⟨m1, m2, m3, m4⟩
        refine ⟨none, (k, v) :: xf1 k loc, st, hh, 0, 0, n + 1, _, ?_, List.mem_cons_self, rfl, st_ok (A := (A.1, S, A.2.2)) hm' m2 hb.2.2 v1, CST_rf hI, fun k' x hx => ⟨fun hne => lo_keep k' _ hne (fun w => absurd w.2 (show ¬ (1 : Nat) = 2 by decide)) hx, fun _ e => absurd rfl e⟩⟩
        rw [hb.2.1]
        unfold xIf xSt
        dsimp only
        rw [kld_ok hb.1 v1]
        rfl
    · cases h
  · cases h
def sft (c : Int) (a b : Int) : cK := match (decide (-2147483648 ≤ a + c) && decide (b + c ≤ 2147483647)) && (decide (-30000 ≤ c) && decide (c ≤ 30000)) with
  | true => .inl (a + c, b + c)
  | false => kint
theorem sft_ok {c a b : Int} {x : Int32} (h1 : a ≤ x.toInt) (h2 : x.toInt ≤ b) : qvK (sft c a b) (.int (x + Int32.ofInt c)) := by
  unfold sft
  split
  · rename_i hd
    rw [Bool.and_eq_true, Bool.and_eq_true, Bool.and_eq_true, decide_eq_true_eq, decide_eq_true_eq, decide_eq_true_eq, decide_eq_true_eq] at hd
    have ec : (Int32.ofInt c).toInt = c := by
      rw [Int32.toInt_ofInt]
      exact i_bm (by omega)
    have ex : (x + Int32.ofInt c).toInt = x.toInt + c := by
      rw [Int32.toInt_add, ec]
      exact i_bm (by omega)
    exact ⟨_, rfl, by omega, by omega⟩
  · exact vK_int _
def t_inc (k ml n : Nat) (c : Int) (A : cA) : Option (List (Nat × cA)) := match A.1[k]? with
  | some (.inl (a, b)) => match Nat.blt k ml && nojA A.1 k with
    | true => some [(n + 1, (A.1.set k (sft c a b), kil k A.2.1, kif k A.2.2.1, kif k A.2.2.2))]
    | false => none
  | _ => none
theorem Stp_inc {k ml : Nat} {c : Int} {R : List (Nat × cA)} (h : t_inc k ml n c A = some R) : cStp calls (xIf (Nat.blt k ml) (xInc k c)) W (some (k, c)) n A R := by
  unfold t_inc at h
  split at h
  · rename_i a b hK
    split at h
    · rename_i hb
      cases h
      rw [Bool.and_eq_true] at hb
      intro loc st hh cs sl hI hm
      obtain ⟨v, v1, x, rfl, x1, x2⟩ := hm.1 k _ hK rfl
      refine ⟨none, (k, .int (x + Int32.ofInt c)) :: xf1 k loc, st, hh, 0, 0, n + 1, _, ?_, List.mem_cons_self, rfl, st_ok hm hm.2.1 hb.2 (sft_ok x1 x2), CST_rf hI, fun k' y hy => ⟨fun hne => lo_keep k' _ hne (fun w => absurd w.2 (show ¬ (1 : Nat) = 2 by decide)) hy, fun e => ?_⟩⟩
      · rw [hb.1]
        unfold xIf xInc
        dsimp only
        rw [v1]
        rfl
      · have e : k' = k := e
        subst e
        rw [v1] at hy
        have hy : x = y := by
          have := Option.some.inj hy
          exact Value.int.inj this
        subst hy
        exact fun _ => xlk_cons
    · cases h
  · cases h
end STP
