/-! ===== the class: a checked method returns ===== -/
def dig (loc : cLoc) (q : Nat × Nat) : Nat := match q.1 with
  | 0 => q.2
  | 1 => match xlk q.2 loc with
    | some (.int x) => (2147483647 - x.toInt).toNat
    | _ => 0
  | _ => match xlk q.2 loc with
    | some (.int x) => (x.toInt + 2147483648).toNat
    | _ => 0
def enc : List Nat → Nat
  | [] => 0
  | d :: r => d * 8589934592 ^ r.length + enc r
theorem enc_lt : ∀ {l : List Nat}, (∀ d ∈ l, d < 8589934592) → enc l < 8589934592 ^ l.length
  | [], _ => by decide
  | d :: r, h => by
    have h1 := enc_lt (fun e he => h e (List.mem_cons_of_mem _ he))
    have h2 : d + 1 ≤ 8589934592 := h d List.mem_cons_self
    have h3 := Nat.mul_le_mul_right (8589934592 ^ r.length) h2
    show d * 8589934592 ^ r.length + enc r < 8589934592 ^ (r.length + 1)
    rw [Nat.pow_succ]
    rw [Nat.add_mul, Nat.one_mul] at h3
    rw [Nat.mul_comm (8589934592 ^ r.length) 8589934592]
    omega
theorem enc_dec {d d' : Nat} {l l' : List Nat} (h : d' < d) (hl : l'.length = l.length) (hs : ∀ e ∈ l', e < 8589934592) : enc (d' :: l') < enc (d :: l) := by
  have h1 := enc_lt hs
  have h2 := Nat.mul_le_mul_right (8589934592 ^ l.length) h
  show d' * 8589934592 ^ l'.length + enc l' < d * 8589934592 ^ l.length + enc l
  rw [hl] at h1 ⊢
  rw [Nat.succ_mul] at h2
  omega
theorem enc_eq {d : Nat} {l l' : List Nat} (hl : l'.length = l.length) (h : enc l' < enc l) : enc (d :: l') < enc (d :: l) := by
  show d * 8589934592 ^ l'.length + enc l' < d * 8589934592 ^ l.length + enc l
  rw [hl]
  omega
/-- constants in a rank are small -/
def rsm : List (Nat × Nat) → Bool
  | [] => true
  | q :: R => (match q.1 with
    | 0 => Nat.blt q.2 8589934592
    | _ => true) && rsm R
theorem dig_lt {loc : cLoc} {q : Nat × Nat} (h : (match q.1 with
    | 0 => Nat.blt q.2 8589934592
    | _ => true) = true) : dig loc q < 8589934592 := by
  unfold dig
  split
  · rename_i e
    rw [e] at h
    exact Nat.le_of_ble_eq_true h
  · split
    · rename_i x _
      have := x.le_toInt
      omega
    · omega
  · split
    · rename_i x _
      have := x.toInt_lt
      omega
    · omega
theorem rsm_ok {loc : cLoc} : ∀ {R : List (Nat × Nat)}, rsm R = true → ∀ e ∈ R.map (dig loc), e < 8589934592
  | [], _, e, he => absurd he List.not_mem_nil
  | q :: R, h, e, he => by
    unfold rsm at h
    rw [Bool.and_eq_true] at h
    rw [List.map_cons] at he
    rcases List.mem_cons.mp he with rfl | he
    · exact dig_lt h.1
    · exact rsm_ok h.2 e he
def isIk (A : cA) (k : Nat) : Bool := match A.1[k]? with
  | some (.inl (_, _)) => true
  | _ => false
/-- it grows, and does not pass the greatest -/
def upK (c : Int) (A : cA) (k : Nat) : Bool := (decide (c = 1) && cmem k A.2.2.1) || (match A.1[k]? with
  | some (.inl q) => (decide (1 ≤ c) && decide (c ≤ 30000)) && decide (q.2 + c ≤ 2147483647)
  | _ => false)
def dnK (c : Int) (A : cA) (k : Nat) : Bool := (decide (c = -1) && cmem k A.2.2.2) || (match A.1[k]? with
  | some (.inl q) => (decide (c ≤ -1) && decide (-30000 ≤ c)) && decide (-2147483648 ≤ q.1 + c)
  | _ => false)
theorem inc_v {c : Int} {x : Int32} (h1 : -30000 ≤ c ∧ c ≤ 30000) (h2 : -2147483648 ≤ x.toInt + c ∧ x.toInt + c ≤ 2147483647) : (x + Int32.ofInt c).toInt = x.toInt + c := by
  have ec : (Int32.ofInt c).toInt = c := by
    rw [Int32.toInt_ofInt]
    exact i_bm (by omega)
  rw [Int32.toInt_add, ec]
  exact i_bm (by omega)
theorem upK_ok {c : Int} {A : cA} {k : Nat} {loc : cLoc} {st : List Value} (h : upK c A k = true) (hm : mA A loc st) : ∃ x : Int32, xlk k loc = some (.int x) ∧ 1 ≤ c ∧ (x + Int32.ofInt c).toInt = x.toInt + c := by
  unfold upK at h
  rw [Bool.or_eq_true] at h
  rcases h with h | h
  · rw [Bool.and_eq_true] at h
    have e := of_decide_eq_true h.1
    obtain ⟨x, hx, hx2⟩ := hm.2.2.1 k (cmem_ok h.2)
    have := x.le_toInt
    exact ⟨x, hx, by omega, inc_v (by omega) (by omega)⟩
  · split at h
    · rename_i q e
      rw [Bool.and_eq_true, Bool.and_eq_true, decide_eq_true_eq, decide_eq_true_eq, decide_eq_true_eq] at h
      obtain ⟨v, v1, x, rfl, x1, x2⟩ := hm.1 k _ e rfl
      have := x.le_toInt
      exact ⟨x, v1, by omega, inc_v (by omega) (by omega)⟩
    · cases h
theorem dnK_ok {c : Int} {A : cA} {k : Nat} {loc : cLoc} {st : List Value} (h : dnK c A k = true) (hm : mA A loc st) : ∃ x : Int32, xlk k loc = some (.int x) ∧ c ≤ -1 ∧ (x + Int32.ofInt c).toInt = x.toInt + c := by
  unfold dnK at h
  rw [Bool.or_eq_true] at h
  rcases h with h | h
  · rw [Bool.and_eq_true] at h
    have e := of_decide_eq_true h.1
    obtain ⟨x, hx, hx2⟩ := hm.2.2.2 k (cmem_ok h.2)
    have := x.toInt_lt
    exact ⟨x, hx, by omega, inc_v (by omega) (by omega)⟩
  · split at h
    · rename_i q e
      rw [Bool.and_eq_true, Bool.and_eq_true, decide_eq_true_eq, decide_eq_true_eq, decide_eq_true_eq] at h
      obtain ⟨v, v1, x, rfl, x1, x2⟩ := hm.1 k _ e rfl
      have := x.toInt_lt
      exact ⟨x, v1, by omega, inc_v (by omega) (by omega)⟩
    · cases h
/-- the rank falls -/
def rkd (c : Option (Nat × Int)) (A : cA) : List (Nat × Nat) → List (Nat × Nat) → Bool
  | q :: R, p :: P => match q.1 with
    | 0 => Nat.beq p.1 0 && ((Nat.blt p.2 q.2 && Nat.beq P.length R.length) || (Nat.beq p.2 q.2 && rkd c A R P))
    | 1 => (Nat.beq p.1 1 && Nat.beq p.2 q.2) && (match c with
      | none => isIk A q.2 && rkd c A R P
      | some w => match Nat.beq w.1 q.2 with
        | true => upK w.2 A q.2 && Nat.beq P.length R.length
        | false => isIk A q.2 && rkd c A R P)
    | _ => (Nat.beq p.1 2 && (Nat.beq q.1 2 && Nat.beq p.2 q.2)) && (match c with
      | none => isIk A q.2 && rkd c A R P
      | some w => match Nat.beq w.1 q.2 with
        | true => dnK w.2 A q.2 && Nat.beq P.length R.length
        | false => isIk A q.2 && rkd c A R P)
  | _, _ => false
theorem isIk_ok {A : cA} {k : Nat} {loc : cLoc} {st : List Value} (h : isIk A k = true) (hm : mA A loc st) : ∃ x : Int32, xlk k loc = some (.int x) := by
  unfold isIk at h
  split at h
  · rename_i a b e
    obtain ⟨v, v1, x, rfl, -⟩ := hm.1 k _ e rfl
    exact ⟨x, v1⟩
  · cases h
theorem rkd_ok {c : Option (Nat × Int)} {A : cA} {loc loc' : cLoc} {st : List Value} (hm : mA A loc st) (hc : cgd c loc loc') : ∀ {R P : List (Nat × Nat)}, rkd c A R P = true → rsm P = true → P.length = R.length ∧ enc (P.map (dig loc')) < enc (R.map (dig loc))
  | [], P, h, _ => by cases h
  | q :: R, [], h, _ => by cases h
  | q :: R, p :: P, h, hs => by
    unfold rsm at hs
    rw [Bool.and_eq_true] at hs
    have ih := rkd_ok hm hc (R := R) (P := P)
    have hlt := rsm_ok (loc := loc') hs.2
    have same : dig loc' p = dig loc q → rkd c A R P = true → (p :: P).length = (q :: R).length ∧ enc ((p :: P).map (dig loc')) < enc ((q :: R).map (dig loc)) := fun e hr => by
      obtain ⟨i1, i2⟩ := ih hr hs.2
      refine ⟨by rw [List.length_cons, List.length_cons, i1], ?_⟩
      rw [List.map_cons, List.map_cons, e]
      exact enc_eq (by rw [List.length_map, List.length_map, i1]) i2
    have less : dig loc' p < dig loc q → P.length = R.length → (p :: P).length = (q :: R).length ∧ enc ((p :: P).map (dig loc')) < enc ((q :: R).map (dig loc)) := fun e hr => by
      refine ⟨by rw [List.length_cons, List.length_cons, hr], ?_⟩
      rw [List.map_cons, List.map_cons]
      exact enc_dec e (by rw [List.length_map, List.length_map, hr]) hlt
    obtain ⟨q1, q2⟩ := q
    obtain ⟨p1, p2⟩ := p
    unfold rkd at h
    dsimp only at h
    split at h
    · rw [Bool.and_eq_true, Bool.or_eq_true, Bool.and_eq_true, Bool.and_eq_true] at h
      obtain ⟨h1, h2⟩ := h
      have e1 := Nat.eq_of_beq_eq_true h1
      subst e1
      rcases h2 with ⟨h2, h3⟩ | ⟨h2, h3⟩
      · exact less (Nat.le_of_ble_eq_true h2) (Nat.eq_of_beq_eq_true h3)
      · exact same (Nat.eq_of_beq_eq_true h2) h3
    · rw [Bool.and_eq_true, Bool.and_eq_true] at h
      obtain ⟨⟨h1, h2⟩, h3⟩ := h
      have e1 := Nat.eq_of_beq_eq_true h1
      have e2 := Nat.eq_of_beq_eq_true h2
      subst e1 e2
      have keep : isIk A p2 = true → (∀ x : Int32, xlk p2 loc = some (.int x) → xlk p2 loc' = some (.int x)) → dig loc' (1, p2) = dig loc (1, p2) := fun hi hk => by
        obtain ⟨x, hx⟩ := isIk_ok hi hm
        unfold dig
        dsimp only
        rw [hx, hk x hx]
      cases c with
      | none =>
        dsimp only at h3
        rw [Bool.and_eq_true] at h3
        exact same (keep h3.1 (fun x hx => hc p2 x hx)) h3.2
      | some w =>
        dsimp only at h3
        cases hb : Nat.beq w.1 p2 with
        | true =>
          rw [hb] at h3
          dsimp only at h3
          rw [Bool.and_eq_true] at h3
          have ew := Nat.eq_of_beq_eq_true hb
          obtain ⟨x, hx, c1, c2⟩ := upK_ok h3.1 hm
          have hx' := (hc p2 x hx).2 ew.symm (by omega)
          refine less ?_ (Nat.eq_of_beq_eq_true h3.2)
          unfold dig
          dsimp only
          rw [hx, hx']
          dsimp only
          rw [c2]
          show (2147483647 - (x.toInt + w.2)).toNat < (2147483647 - x.toInt).toNat
          have := (x + Int32.ofInt w.2).toInt_lt
          omega
        | false =>
          rw [hb] at h3
          dsimp only at h3
          rw [Bool.and_eq_true] at h3
          refine same (keep h3.1 (fun x hx => (hc p2 x hx).1 (fun e => ?_))) h3.2
          rw [e, Nat.beq_refl] at hb
          cases hb
    · rw [Bool.and_eq_true, Bool.and_eq_true, Bool.and_eq_true] at h
      obtain ⟨⟨h1, h1', h2⟩, h3⟩ := h
      have e1 := Nat.eq_of_beq_eq_true h1
      have e1' := Nat.eq_of_beq_eq_true h1'
      have e2 := Nat.eq_of_beq_eq_true h2
      subst e1 e1' e2
      have keep : isIk A p2 = true → (∀ x : Int32, xlk p2 loc = some (.int x) → xlk p2 loc' = some (.int x)) → dig loc' (2, p2) = dig loc (2, p2) := fun hi hk => by
        obtain ⟨x, hx⟩ := isIk_ok hi hm
        unfold dig
        dsimp only
        rw [hx, hk x hx]
      cases c with
      | none =>
        dsimp only at h3
        rw [Bool.and_eq_true] at h3
        exact same (keep h3.1 (fun x hx => hc p2 x hx)) h3.2
      | some w =>
        dsimp only at h3
        cases hb : Nat.beq w.1 p2 with
        | true =>
          rw [hb] at h3
          dsimp only at h3
          rw [Bool.and_eq_true] at h3
          have ew := Nat.eq_of_beq_eq_true hb
          obtain ⟨x, hx, c1, c2⟩ := dnK_ok h3.1 hm
          have hx' := (hc p2 x hx).2 ew.symm (by omega)
          refine less ?_ (Nat.eq_of_beq_eq_true h3.2)
          unfold dig
          dsimp only
          rw [hx, hx']
          dsimp only
          rw [c2]
          show (x.toInt + w.2 + 2147483648).toNat < (x.toInt + 2147483648).toNat
          have := (x + Int32.ofInt w.2).le_toInt
          omega
        | false =>
          rw [hb] at h3
          dsimp only at h3
          rw [Bool.and_eq_true] at h3
          refine same (keep h3.1 (fun x hx => (hc p2 x hx).1 (fun e => ?_))) h3.2
          rw [e, Nat.beq_refl] at hb
          cases hb
abbrev cN : Type := List (cA × List (Nat × Nat))
def chkT (AN : cN) (c : Option (Nat × Int)) (a : cA × List (Nat × Nat)) : List (Nat × cA) → Bool
  | [] => true
  | p :: R => (match AN[p.1]? with
    | some b => ale p.2 b.1 && (rkd c a.1 a.2 b.2 && rsm b.2)
    | none => false) && chkT AN c a R
/-- a place behind a goto that no one goes to is not asked for -/
def drp (i : Instr) (R : List (Nat × cA)) : List (Nat × cA) := match i with
  | .goto _ => R.take 1
  | _ => R
/-- a place that no one comes to -/
def botL : List cK → Bool
  | [] => false
  | K :: L => (match K with
    | .inl (a, b) => decide (b < a)
    | _ => false) || botL L
theorem botL_no {loc : cLoc} : ∀ {L : List cK} {i : Nat}, (∀ k K, L[k]? = some K → kU K = false → ∃ v, xlk (i + k) loc = some v ∧ qvK K v) → botL L = true → False
  | [], _, _, h => by cases h
  | K :: L, i, hm, h => by
    unfold botL at h
    rw [Bool.or_eq_true] at h
    rcases h with h | h
    · split at h
      · rename_i a b
        obtain ⟨v, -, x, -, x1, x2⟩ := hm 0 _ rfl rfl
        have := of_decide_eq_true h
        omega
      · cases h
    · refine botL_no (loc := loc) (i := i + 1) (fun k K' hk hu => ?_) h
      obtain ⟨v, v1, v2⟩ := hm (k + 1) K' hk hu
      exact ⟨v, by rw [show i + 1 + k = i + (k + 1) by omega]; exact v1, v2⟩
def chk1 (sg : List (Nat × cSg)) (q : cSg) (L : xLD) (ml : Nat) (ret : Option FieldType) (E : xCd) (AN : cN) (n : Nat) (e : Nat × Instr × Nat) (r : xCd) (a : cA × List (Nat × Nat)) : Bool := botL a.1.1 || (t_R q.2.1 ret e.2.1 e.2.2 a.1.2.1 || (match t_X sg q.2.2 L ml E n e r a.1 with
  | some R => chkT AN (chg e.2.1) a (drp e.2.1 R)
  | none => false))
def chkA (sg : List (Nat × cSg)) (q : cSg) (L : xLD) (ml : Nat) (ret : Option FieldType) (E : xCd) (AN : cN) : Nat → xCd → cN → Bool
  | _, [], [] => true
  | n, e :: r, a :: an => chk1 sg q L ml ret E AN n e r a && chkA sg q L ml ret E AN (n + 1) r an
  | _, _, _ => false
section RUN
variable {sg : List (Nat × cSg)} {q : cSg} {L : xLD} {ml : Nat} {ret : Option FieldType} {E : xCd} {AN : cN} {calls : xC}
theorem chkA_at : ∀ {n : Nat} {l : xCd} {an : cN} {m : Nat} {a : cA × List (Nat × Nat)}, chkA sg q L ml ret E AN n l an = true → an[m]? = some a → ∃ e, l[m]? = some e ∧ chk1 sg q L ml ret E AN (n + m) e (l.drop (m + 1)) a = true
  | n, [], [], m, a, _, h => by cases h
  | n, [], b :: an, m, a, h, _ => by cases h
  | n, e :: r, [], m, a, h, _ => by cases h
  | n, e :: r, b :: an, m, a, h, hm => by
    unfold chkA at h
    rw [Bool.and_eq_true] at h
    cases m with
    | zero =>
      cases hm
      exact ⟨e, rfl, h.1⟩
    | succ m =>
      obtain ⟨e', e1, e2⟩ := chkA_at h.2 (show an[m]? = some a from hm)
      refine ⟨e', e1, ?_⟩
      rw [show n + (m + 1) = n + 1 + m by omega]
      exact e2
theorem chkT_at {c : Option (Nat × Int)} {a : cA × List (Nat × Nat)} {p : Nat × cA} : ∀ {R : List (Nat × cA)}, chkT AN c a R = true → p ∈ R → ∃ b, AN[p.1]? = some b ∧ ale p.2 b.1 = true ∧ rkd c a.1 a.2 b.2 = true ∧ rsm b.2 = true
  | [], _, h => absurd h List.not_mem_nil
  | r :: R, h, hp => by
    unfold chkT at h
    rw [Bool.and_eq_true] at h
    rcases List.mem_cons.mp hp with rfl | hp
    · have h1 := h.1
      cases hb : AN[p.1]? with
      | none => rw [hb] at h1; cases h1
      | some b =>
        rw [hb] at h1
        dsimp only at h1
        rw [Bool.and_eq_true, Bool.and_eq_true] at h1
        exact ⟨b, rfl, h1⟩
    · exact chkT_at h.2 hp
/-- a goto always goes -/
theorem drp_ok {W : List (Nat × Nat)} {n : Nat} {A : cA} {e : Nat × Instr × Nat} {r : xCd} {R : List (Nat × cA)} (h : t_X sg W L ml E n e r A = some R) (hs : cStp calls (xIt L ml ret false E e.1 e.2.1 e.2.2 r) W (chg e.2.1) n A R) : cStp calls (xIt L ml ret false E e.1 e.2.1 e.2.2 r) W (chg e.2.1) n A (drp e.2.1 R) := by
  obtain ⟨pc, i, len⟩ := e
  cases i <;> (try (exact hs))
  case goto off =>
    have h : (match Nat.beq len 3 with
      | true => match xgt E pc off with
        | some t => some [(t, A), (n + 1, A)]
        | none => none
      | false => none) = some R := h
    cases hb : Nat.beq len 3 with
    | false => rw [hb] at h; cases h
    | true =>
      rw [hb] at h
      dsimp only at h
      cases ho : xgt E pc off with
      | none => rw [ho] at h; cases h
      | some t =>
        rw [ho] at h
        cases h
        intro loc st hh cs sl hI hm
        refine ⟨some t, loc, st, hh, 0, 0, t, A, ?_, List.mem_cons_self, rfl, hm, CST_rf hI, cgd_rf⟩
        show xIf (Nat.beq len 3) (xGo (xgt E pc off) xc_go) calls _ = _
        rw [hb, ho]
        rfl
theorem run_ok (hc : ∀ p ∈ sg, CTR calls p.1 p.2) (hk : chkA sg q L ml ret E AN 0 E AN = true) : ∀ (N n : Nat) (loc : cLoc) (st : List Value) (h : xH) (cs sl : Nat) (a : cA × List (Nat × Nat)), AN[n]? = some a → enc (a.2.map (dig loc)) = N → INV h → mA a.1 loc st → ∃ m v h' cs' sl', xit calls (xmk L ml ret false E E) m (some (.inl (xmk L ml ret false E (E.drop n), (loc, st, h, cs, sl)))) = some (.inr (v, h', cs + cs', sl + sl')) ∧ rOK q.2.1 v ∧ CST q.2.2 h h' cs' sl' := by
  intro N
  induction N using Nat.strongRecOn with
  | ind N ih =>
    intro n loc st h cs sl a ha hN hI hm
    obtain ⟨e, e1, e2⟩ := chkA_at hk ha
    rw [Nat.zero_add] at e2
    have hd : E.drop n = e :: E.drop (n + 1) := by
      obtain ⟨hl, he⟩ := List.getElem?_eq_some_iff.mp e1
      rw [List.drop_eq_getElem_cons hl, he]
    have hx : xmk L ml ret false E (E.drop n) = (e.1, xIt L ml ret false E e.1 e.2.1 e.2.2 (E.drop (n + 1))) :: xmk L ml ret false E (E.drop (n + 1)) := by
      rw [hd]
      rfl
    rw [hx]
    unfold chk1 at e2
    rw [Bool.or_eq_true, Bool.or_eq_true] at e2
    rcases e2 with e2 | e2 | e2
    · refine absurd e2 (fun w => botL_no (loc := loc) (i := 0) (fun k K hK hu => ?_) w)
      rw [Nat.zero_add]
      exact hm.1 k K hK hu
    · obtain ⟨v, v1, v2⟩ := t_R_ok (calls := calls) (L := L) (ml := ml) (E := E) (r := E.drop (n + 1)) (hh := h) (cs := cs) (sl := sl) e2 hm
      exact ⟨1, v, h, 0, 0, xit_r v1, v2, CST_rf hI⟩
    · cases hR : t_X sg q.2.2 L ml E n e (E.drop (n + 1)) a.1 with
      | none => rw [hR] at e2; cases e2
      | some R =>
        rw [hR] at e2
        dsimp only at e2
        have hs := drp_ok (ret := ret) hR (t_X_ok (ret := ret) hc hR)
        obtain ⟨o, loc', st', h', cs1, sl1, t, B, s1, s2, s3, s4, s5, s6⟩ := hs loc st h cs sl hI hm
        obtain ⟨b, b1, b2, b3, b4⟩ := chkT_at e2 s2
        have b1 : AN[t]? = some b := b1
        have hlt := (rkd_ok hm s6 b3 b4).2
        rw [hN] at hlt
        obtain ⟨m, v, h2, cs2, sl2, r1, r2, r3⟩ := ih _ hlt t loc' st' h' (cs + cs1) (sl + sl1) b b1 rfl s5.1 (ale_ok b2 s4)
        refine ⟨m + 1, v, h2, cs1 + cs2, sl1 + sl2, ?_, r2, CST_tr s5 r3⟩
        refine xit_l s1 ?_
        have hnx : xnx (xmk L ml ret false E E) (xmk L ml ret false E (E.drop (n + 1))) o = xmk L ml ret false E (E.drop t) := by
          cases o with
          | none =>
            have s3 : t = n + 1 := s3
            rw [s3]
            rfl
          | some t' =>
            have s3 : t = t' := s3
            rw [s3]
            exact xmk_drop t' E
        rw [hnx, ← Nat.add_assoc, ← Nat.add_assoc]
        exact r1
/-- locals at a method's start: a long takes two places -/
def exl : List cK → List cK
  | [] => []
  | K :: A => match kcat K with
    | 2 => K :: .inr (.inr none) :: exl A
    | _ => K :: exl A
def kc2 : List cK → Bool
  | [] => true
  | K :: A => Nat.ble (kcat K) 2 && kc2 A
theorem kcat_12 {K : cK} (h : kcat K ≤ 2) : kcat K = 1 ∨ kcat K = 2 := by
  cases K using cKe with
  | u => exact absurd h (by decide)
  | i a b => exact Or.inl rfl
  | j => exact Or.inr rfl
  | r S => exact Or.inl rfl
  | t => exact Or.inl rfl
theorem exl_1 {K : cK} {A : List cK} (h : kcat K = 1) : exl (K :: A) = K :: exl A := by
  show (match kcat K with
    | 2 => K :: .inr (.inr none) :: exl A
    | _ => K :: exl A) = _
  rw [h]
  rfl
theorem exl_2 {K : cK} {A : List cK} (h : kcat K = 2) : exl (K :: A) = K :: .inr (.inr none) :: exl A := by
  show (match kcat K with
    | 2 => K :: .inr (.inr none) :: exl A
    | _ => K :: exl A) = _
  rw [h]
  rfl
theorem la_get : ∀ {A : List cK} {vs : List Value} {k i : Nat} {K : cK}, aOK A vs → kc2 A = true → (exl A)[k]? = some K → kU K = false → ∃ v, xlk (i + k) (lv_args i vs) = some v ∧ qvK K v
  | [], vs, k, i, K, _, _, h, _ => by cases h
  | K0 :: A, [], k, i, K, h, _, _, _ => absurd h id
  | K0 :: A, v :: vs, k, i, K, h, hk, he, hu => by
    unfold kc2 at hk
    rw [Bool.and_eq_true] at hk
    have hc0 := Nat.le_of_ble_eq_true hk.1
    have hc := kcat_ok hc0 h.1
    rcases kcat_12 hc0 with h1 | h1
    · rw [exl_1 h1] at he
      have e : lv_args i (v :: vs) = (i, v) :: lv_args (i + 1) vs := by
        show (i, v) :: lv_args (if v.category = 2 then i + 2 else i + 1) vs = _
        rw [if_neg (by omega)]
      rw [e]
      cases k with
      | zero =>
        cases he
        exact ⟨v, xlk_cons, h.1⟩
      | succ k =>
        obtain ⟨w, w1, w2⟩ := la_get (i := i + 1) h.2 hk.2 (show (exl A)[k]? = some K from he) hu
        refine ⟨w, ?_, w2⟩
        rw [xlk_ne (by omega), show i + (k + 1) = i + 1 + k by omega]
        exact w1
    · rw [exl_2 h1] at he
      have e : lv_args i (v :: vs) = (i, v) :: lv_args (i + 2) vs := by
        show (i, v) :: lv_args (if v.category = 2 then i + 2 else i + 1) vs = _
        rw [if_pos (by omega)]
      rw [e]
      match k, he with
      | 0, he =>
        cases he
        exact ⟨v, xlk_cons, h.1⟩
      | 1, he =>
        cases he
        cases hu
      | k + 2, he =>
        obtain ⟨w, w1, w2⟩ := la_get (i := i + 2) h.2 hk.2 (show (exl A)[k]? = some K from he) hu
        refine ⟨w, ?_, w2⟩
        rw [xlk_ne (by omega), show i + (k + 2) = i + 2 + k by omega]
        exact w1
theorem sl_len : ∀ {A : List cK} {vs : List Value}, aOK A vs → kc2 A = true → (lg_sl vs).length = (exl A).length
  | [], [], _, _ => rfl
  | [], v :: vs, h, _ => absurd h id
  | K0 :: A, [], h, _ => absurd h id
  | K0 :: A, v :: vs, h, hk => by
    unfold kc2 at hk
    rw [Bool.and_eq_true] at hk
    have hc0 := Nat.le_of_ble_eq_true hk.1
    have hc := kcat_ok hc0 h.1
    have ih := sl_len h.2 hk.2
    rcases kcat_12 hc0 with h1 | h1
    · have e : lg_sl (v :: vs) = .val v :: lg_sl vs := by
        unfold lg_sl
        rw [List.flatMap_cons, if_neg (by omega)]
        rfl
      rw [exl_1 h1, e, List.length_cons, List.length_cons, ih]
    · have e : (lg_sl (v :: vs)).length = (lg_sl vs).length + 2 := by
        unfold lg_sl
        rw [List.flatMap_cons, if_pos (by omega), List.length_append]
        exact Nat.add_comm _ _
      rw [exl_2 h1, e, List.length_cons, List.length_cons, ih]
def chkM (sg : List (Nat × cSg)) (q : cSg) (L : xLD) (ml : Nat) (ret : Option FieldType) (E : xCd) (AN : cN) : Bool := (kc2 q.1 && Nat.ble (exl q.1).length ml) && ((match AN with
  | a :: _ => ale (exl q.1, [], [], []) a.1
  | [] => false) && chkA sg q L ml ret E AN 0 E AN)
/-- a method that is checked keeps what it promises -/
theorem chk_ok {d j : Nat} {M : xM} (hM : xsg j = some M) (hml : M.2.2.1 = ml) (hF : xpr j = some (xmk L ml ret false E E)) (hk : chkM sg q L ml ret E AN = true) (hc : ∀ p ∈ sg, CTR (yex d) p.1 p.2) : CTR (yex (d + 1)) j q := by
  intro h vs hI ha
  unfold chkM at hk
  rw [Bool.and_eq_true, Bool.and_eq_true, Bool.and_eq_true] at hk
  obtain ⟨⟨k1, k2⟩, k3, k4⟩ := hk
  cases AN with
  | nil => cases k3
  | cons a an =>
    dsimp only at k3
    have hm : mA ((exl q.1, [], [], []) : cA) (lv_args 0 vs) [] := ⟨fun k K hK hu => by
      obtain ⟨v, v1, v2⟩ := la_get (i := 0) ha k1 hK hu
      rw [Nat.zero_add] at v1
      exact ⟨v, v1, v2⟩, trivial, fun k hk => absurd hk List.not_mem_nil, fun k hk => absurd hk List.not_mem_nil⟩
    obtain ⟨m, v, h', cs, sl, r1, r2, r3⟩ := run_ok hc k4 _ 0 (lv_args 0 vs) [] h 0 0 a rfl rfl hI (ale_ok k3 hm)
    rw [Nat.zero_add, Nat.zero_add] at r1
    refine ⟨v, h', cs, sl, yex_of (k := m) hM hF ?_ r1, r2, r3⟩
    rw [sl_len ha k1, hml]
    exact k2
end RUN
