/-! ===== the class: a method's code, checked by kinds ===== -/
def tryC (j m : Nat) (ci : Option Nat) (W : List (Nat × Nat)) (n : Nat) (A : cA) : List (Nat × cSg) → Option (List (Nat × cA))
  | [] => none
  | p :: T => match Nat.beq p.1 j with
    | true => match t_call p.2 m ci W n A with
      | some R => some R
      | none => tryC j m ci W n A T
    | false => tryC j m ci W n A T
theorem cStp_try {calls : xC} {W : List (Nat × Nat)} {n : Nat} {A : cA} {j m : Nat} {ci : Option Nat} {R : List (Nat × cA)} : ∀ {T : List (Nat × cSg)}, (∀ p ∈ T, CTR calls p.1 p.2) → tryC j m ci W n A T = some R → cStp calls (xCall j m ci) W none n A R
  | [], _, h => by cases h
  | p :: T, hc, h => by
    have ih := cStp_try (W := W) (n := n) (A := A) (j := j) (m := m) (ci := ci) (R := R) (T := T) (fun q hq => hc q (List.mem_cons_of_mem _ hq))
    unfold tryC at h
    cases hb : Nat.beq p.1 j with
    | false =>
      rw [hb] at h
      exact ih h
    | true =>
      rw [hb] at h
      dsimp only at h
      have e := Nat.eq_of_beq_eq_true hb
      cases ht : t_call p.2 m ci W n A with
      | none =>
        rw [ht] at h
        exact ih h
      | some R' =>
        rw [ht] at h
        cases h
        rw [← e]
        exact cStp_call (hc p List.mem_cons_self) ht
def t_I (sg : List (Nat × cSg)) (W : List (Nat × Nat)) (L : xLD) (ml : Nat) (g : Int → Option Nat) (n : Nat) (i : Instr) (A : cA) : Option (List (Nat × cA)) := match pOp L i with
  | some q => match q.2 A.2.1 with
    | some S' => some [(n + 1, (A.1, S', A.2.2))]
    | none => none
  | none => match i with
    | .aload_n k => t_ld 1 k n A
    | .aload k => t_ld 1 k n A
    | .iload_n k => t_ld 0 k n A
    | .iload k => t_ld 0 k n A
    | .lload_n k => t_ld 2 k n A
    | .lload k => t_ld 2 k n A
    | .istore_n k => t_st 0 k ml n A
    | .istore k => t_st 0 k ml n A
    | .astore_n k => t_st 1 k ml n A
    | .astore k => t_st 1 k ml n A
    | .iinc k c => t_inc k ml n c A
    | .ifCond c off => match g off with
      | some t => t_if c t n A
      | none => none
    | .if_icmp c off => match g off with
      | some t => t_ic c t n A
      | none => none
    | .getfield x => match xlu x L.1 with
      | some q => t_get q n A
      | none => none
    | .putfield x => match xlu x L.1 with
      | some q => t_put q W n A
      | none => none
    | .invokestatic x => match xlu x L.2.1 with
      | some q => match q.1 with
        | 0 => tryC q.2.1 q.2.2.1 none W n A sg
        | 5 => t_mx n A
        | 6 => t_mx n A
        | _ => none
      | none => none
    | .invokevirtual x => match xlu x L.2.1 with
      | some q => match q.1 with
        | 1 => tryC q.2.1 (q.2.2.1 + 1) (some q.2.2.2) W n A sg
        | 10 => tryC q.2.1 (q.2.2.1 + 1) (some q.2.2.2) W n A sg
        | _ => none
      | none => none
    | _ => none
section CHK
variable {calls : xC} {sg : List (Nat × cSg)} {W : List (Nat × Nat)} {n : Nat} {A : cA}
theorem pOp_chg {L : xLD} {i : Instr} {q : (List Value → Option (List Value)) × (kS → Option kS)} (h : pOp L i = some q) : chg i = none := by
  cases i <;> first | rfl | (cases h; done)
theorem cStp_go {o : Option Nat} {cnd : List Value → Option (Bool × List Value)} {R : List (Nat × cA)} (h : ∀ t, o = some t → cStp calls (xBr cnd t) W none n A R) (ho : ∃ t, o = some t) : cStp calls (xGo o cnd) W none n A R := by
  obtain ⟨t, rfl⟩ := ho
  exact h t rfl
theorem t_I_ok {L : xLD} {ml : Nat} {g : Int → Option Nat} {i : Instr} {R : List (Nat × cA)} (hc : ∀ p ∈ sg, CTR calls p.1 p.2) (h : t_I sg W L ml g n i A = some R) : cStp calls (xSe L ml false g i) W (chg i) n A R := by
  unfold t_I at h
  cases hp : pOp L i with
  | some q =>
    rw [hp] at h
    dsimp only at h
    cases hq : q.2 A.2.1 with
    | none => rw [hq] at h; cases h
    | some S' =>
      rw [hq] at h
      cases h
      obtain ⟨e1, e2⟩ := pOp_ok (ml := ml) (g := g) hp
      rw [e1, pOp_chg hp]
      exact Stp_pure e2 hq
  | none =>
    rw [hp] at h
    dsimp only at h
    cases i <;> (try (cases h; done))
    case aload_n k => exact Stp_ld h
    case aload k => exact Stp_ld h
    case iload_n k => exact Stp_ld h
    case iload k => exact Stp_ld h
    case lload_n k => exact Stp_ld h
    case lload k => exact Stp_ld h
    case istore_n k => exact Stp_st h
    case istore k => exact Stp_st h
    case astore_n k => exact Stp_st h
    case astore k => exact Stp_st h
    case iinc k c => exact Stp_inc h
    case ifCond c off =>
      dsimp only at h
      cases ho : g off with
      | none => rw [ho] at h; cases h
      | some t =>
        rw [ho] at h
        show cStp calls (xGo (g off) (xcnd c)) W none n A R
        rw [ho]
        exact cStp_if h
    case if_icmp c off =>
      dsimp only at h
      cases ho : g off with
      | none => rw [ho] at h; cases h
      | some t =>
        rw [ho] at h
        show cStp calls (xGo (g off) (xcmp c)) W none n A R
        rw [ho]
        exact cStp_ic h
    case getfield x =>
      dsimp only at h
      cases ho : xlu x L.1 with
      | none => rw [ho] at h; cases h
      | some q =>
        rw [ho] at h
        show cStp calls (xGm (xlu x L.1)) W none n A R
        rw [ho]
        exact cStp_get h
    case putfield x =>
      dsimp only at h
      cases ho : xlu x L.1 with
      | none => rw [ho] at h; cases h
      | some q =>
        rw [ho] at h
        show cStp calls (xPm false (xlu x L.1)) W none n A R
        rw [ho]
        exact cStp_put h
    case invokestatic x =>
      dsimp only at h
      cases ho : xlu x L.2.1 with
      | none => rw [ho] at h; cases h
      | some q =>
        rw [ho] at h
        show cStp calls (xSm (xlu x L.2.1)) W none n A R
        rw [ho]
        obtain ⟨a, b, c, d⟩ := q
        dsimp only at h
        split at h
        · exact cStp_try hc h
        · refine cStp_mx (g := fun x y => if x < y then y else x) (fun loc x y st hh cs sl hx => ?_) h
          rw [show xSm (some (5, b, c, d)) = xMx from rfl]
          unfold xMx
          dsimp only
          rw [Nat.ble_eq_true_of_le hx]
        · refine cStp_mx (g := fun x y => if y < x then y else x) (fun loc x y st hh cs sl hx => ?_) h
          rw [show xSm (some (6, b, c, d)) = xMn from rfl]
          unfold xMn
          dsimp only
          rw [Nat.ble_eq_true_of_le hx]
        · cases h
    case invokevirtual x =>
      dsimp only at h
      cases ho : xlu x L.2.1 with
      | none => rw [ho] at h; cases h
      | some q =>
        rw [ho] at h
        show cStp calls (xVm (xlu x L.2.1)) W none n A R
        rw [ho]
        obtain ⟨a, b, c, d⟩ := q
        dsimp only at h
        split at h
        · exact cStp_try hc h
        · exact cStp_try hc h
        · cases h
def spc : Instr → Bool
  | .goto _ => true
  | .return_ => true
  | .ireturn => true
  | .areturn => true
  | .tableswitch _ _ _ _ => true
  | .lookupswitch _ _ => true
  | _ => false
theorem xIt_gen {L : xLD} {ml : Nat} {ret : Option FieldType} {E : xCd} {pc len : Nat} {i : Instr} {r : xCd} (h : spc i = false) : xIt L ml ret false E pc i len r = xIf (Nat.beq (xln i) len && xNx r (pc + len)) (xSe L ml false (xgt E pc) i) := by
  cases i <;> first | rfl | (cases h; done)
/-- all places a switch goes to -/
def tgs (g : Int → Option Nat) : List Int → Option (List Nat)
  | [] => some []
  | o :: l => match g o with
    | some t => match tgs g l with
      | some r => some (t :: r)
      | none => none
    | none => none
theorem tgs_ok {g : Int → Option Nat} : ∀ {l : List Int} {r : List Nat} {k : Nat} {o : Int}, tgs g l = some r → l[k]? = some o → ∃ t, g o = some t ∧ t ∈ r
  | [], r, k, o, _, h => by cases h
  | a :: l, r, k, o, h, hk => by
    unfold tgs at h
    cases h1 : g a with
    | none => rw [h1] at h; cases h
    | some t =>
      rw [h1] at h
      dsimp only at h
      cases h2 : tgs g l with
      | none => rw [h2] at h; cases h
      | some r' =>
        rw [h2] at h
        cases h
        cases k with
        | zero =>
          cases hk
          exact ⟨t, h1, List.mem_cons_self⟩
        | succ k =>
          obtain ⟨t', e1, e2⟩ := tgs_ok h2 (show l[k]? = some o from hk)
          exact ⟨t', e1, List.mem_cons_of_mem _ e2⟩
theorem ls_mem (d k : Int) : ∀ (l : List (Int × Int)), ∃ i : Nat, (d :: l.map (·.2))[i]? = some (Op.lookupswitch.offset l d k)
  | [] => ⟨0, rfl⟩
  | (a, o) :: l => by
    rw [Op.lookupswitch.offset_cons]
    by_cases h : a = k
    · rw [if_pos h]
      exact ⟨1, rfl⟩
    · rw [if_neg h]
      obtain ⟨i, hi⟩ := ls_mem d k l
      match i, hi with
      | 0, hi => exact ⟨0, hi⟩
      | i + 1, hi => exact ⟨i + 2, hi⟩
def t_X (sg : List (Nat × cSg)) (W : List (Nat × Nat)) (L : xLD) (ml : Nat) (E : xCd) (n : Nat) (e : Nat × Instr × Nat) (r : xCd) (A : cA) : Option (List (Nat × cA)) := match e.2.1 with
  | .goto off => match Nat.beq e.2.2 3 with
    | true => match xgt E e.1 off with
      | some t => some [(t, A), (n + 1, A)]
      | none => none
    | false => none
  | .tableswitch d lo hi offs => match A.2.1 with
    | (.inl (_, _), _) :: S => match decide (hi - lo + 1 = (offs.toList.length : Int)) with
      | true => match tgs (xgt E e.1) (d :: offs.toList) with
        | some ts => some (ts.map (fun t => (t, (A.1, S, A.2.2))))
        | none => none
      | false => none
    | _ => none
  | .return_ => none
  | .ireturn => none
  | .areturn => none
  | .lookupswitch d ps => match A.2.1 with
    | (.inl (_, _), _) :: S => match (ps.toList.zip (ps.toList.drop 1)).all (fun (a, next) => a.1 < next.1) with
      | true => match tgs (xgt E e.1) (d :: ps.toList.map (·.2)) with
        | some ts => some (ts.map (fun t => (t, (A.1, S, A.2.2))))
        | none => none
      | false => none
    | _ => none
  | i => match Nat.beq (xln i) e.2.2 && xNx r (e.1 + e.2.2) with
    | true => t_I sg W L ml (xgt E e.1) n i A
    | false => none
theorem t_X_gen {L : xLD} {ml : Nat} {E : xCd} {e : Nat × Instr × Nat} {r : xCd} (h : spc e.2.1 = false) : t_X sg W L ml E n e r A = match Nat.beq (xln e.2.1) e.2.2 && xNx r (e.1 + e.2.2) with
    | true => t_I sg W L ml (xgt E e.1) n e.2.1 A
    | false => none := by
  obtain ⟨pc, i, len⟩ := e
  cases i <;> first | rfl | (cases h; done)
/-- a jump leaves one of these -/
def cStpX (calls : xC) (f : xF) (W : List (Nat × Nat)) (c : Option (Nat × Int)) (n : Nat) (A : cA) (R : List (Nat × cA)) : Prop := cStp calls f W c n A R
theorem t_X_ok {L : xLD} {ml : Nat} {ret : Option FieldType} {E : xCd} {e : Nat × Instr × Nat} {r : xCd} {R : List (Nat × cA)} (hc : ∀ p ∈ sg, CTR calls p.1 p.2) (h : t_X sg W L ml E n e r A = some R) : cStp calls (xIt L ml ret false E e.1 e.2.1 e.2.2 r) W (chg e.2.1) n A R := by
  cases hs : spc e.2.1 with
  | false =>
    rw [t_X_gen hs] at h
    rw [xIt_gen hs]
    cases hb : (Nat.beq (xln e.2.1) e.2.2 && xNx r (e.1 + e.2.2)) with
    | false => rw [hb] at h; cases h
    | true =>
      rw [hb] at h
      exact t_I_ok hc h
  | true =>
    obtain ⟨pc, i, len⟩ := e
    cases i <;> (try (cases hs; done)) <;> (try (cases h; done))
    case goto off =>
      have h : (match Nat.beq len 3 with
        | true => match xgt E pc off with
          | some t => some [(t, A), (n + 1, A)]
          | none => none
        | false => none) = some R := h
      show cStp calls (xIf (Nat.beq len 3) (xGo (xgt E pc off) xc_go)) W none n A R
      cases hb : Nat.beq len 3 with
      | false => rw [hb] at h; cases h
      | true =>
        rw [hb] at h
        dsimp only at h
        cases ho : xgt E pc off with
        | none => rw [ho] at h; cases h
        | some t =>
          rw [ho] at h
          cases h
          exact cStp_br (fun loc st hm => ⟨true, st, rfl, hm⟩)
    case tableswitch d lo hi offs =>
      have h : (match A.2.1 with
        | (.inl (_, _), _) :: S => match decide (hi - lo + 1 = (offs.toList.length : Int)) with
          | true => match tgs (xgt E pc) (d :: offs.toList) with
            | some ts => some (ts.map (fun t => (t, (A.1, S, A.2.2))))
            | none => none
          | false => none
        | _ => none) = some R := h
      show cStp calls (xTs lo hi offs.toList d (xgt E pc)) W none n A R
      split at h
      · rename_i a b o S hS
        cases hd : decide (hi - lo + 1 = (offs.toList.length : Int)) with
        | false => rw [hd] at h; cases h
        | true =>
          rw [hd] at h
          dsimp only at h
          have hd := of_decide_eq_true hd
          cases ht : tgs (xgt E pc) (d :: offs.toList) with
          | none => rw [ht] at h; cases h
          | some ts =>
            rw [ht] at h
            cases h
            intro loc st hh cs sl hI hm
            obtain ⟨m1, m2, m3, m4⟩ := hm
            rw [hS] at m2
            cases st with
            | nil => exact absurd m2 id
            | cons v st =>
              obtain ⟨⟨x, rfl, -⟩, -, m2⟩ := m2
              have fin : ∀ (k : Nat) (off : Int), (d :: offs.toList)[k]? = some off → ∃ t, xgt E pc off = some t ∧ (t, ((A.1, S, A.2.2) : cA)) ∈ ts.map (fun t => (t, ((A.1, S, A.2.2) : cA))) := fun k off hk => by
                obtain ⟨t, e1, e2⟩ := tgs_ok ht hk
                exact ⟨t, e1, List.mem_map.mpr ⟨t, e2, rfl⟩⟩
              by_cases hx : x.toInt < lo ∨ hi < x.toInt
              · obtain ⟨t, e1, e2⟩ := fin 0 d rfl
                refine ⟨some t, loc, st, hh, 0, 0, t, _, ?_, e2, rfl, ⟨m1, m2, m3, m4⟩, CST_rf hI, cgd_rf⟩
                unfold xTs
                dsimp only
                rw [if_pos hx, e1]
                rfl
              · have hk : (x.toInt - lo).toNat < offs.toList.length := by omega
                obtain ⟨t, e1, e2⟩ := fin ((x.toInt - lo).toNat + 1) offs.toList[(x.toInt - lo).toNat] (List.getElem?_eq_getElem hk)
                refine ⟨some t, loc, st, hh, 0, 0, t, _, ?_, e2, rfl, ⟨m1, m2, m3, m4⟩, CST_rf hI, cgd_rf⟩
                unfold xTs
                dsimp only
                rw [if_neg hx, List.getElem?_eq_getElem hk]
                dsimp only
                rw [e1]
                rfl
      · cases h
    case lookupswitch d ps =>
      have h : (match A.2.1 with
        | (.inl (_, _), _) :: S => match (ps.toList.zip (ps.toList.drop 1)).all (fun (a, next) => a.1 < next.1) with
          | true => match tgs (xgt E pc) (d :: ps.toList.map (·.2)) with
            | some ts => some (ts.map (fun t => (t, (A.1, S, A.2.2))))
            | none => none
          | false => none
        | _ => none) = some R := h
      show cStp calls (xIf ((ps.toList.zip (ps.toList.drop 1)).all (fun (a, next) => a.1 < next.1)) (xLs ps.toList d (xgt E pc))) W none n A R
      split at h
      · rename_i a b o S hS
        cases hd : (ps.toList.zip (ps.toList.drop 1)).all (fun (a, next) => a.1 < next.1) with
        | false => rw [hd] at h; cases h
        | true =>
          rw [hd] at h
          dsimp only at h
          cases ht : tgs (xgt E pc) (d :: ps.toList.map (·.2)) with
          | none => rw [ht] at h; cases h
          | some ts =>
            rw [ht] at h
            cases h
            intro loc st hh cs sl hI hm
            obtain ⟨m1, m2, m3, m4⟩ := hm
            rw [hS] at m2
            cases st with
            | nil => exact absurd m2 id
            | cons v st =>
              obtain ⟨⟨x, rfl, -⟩, -, m2⟩ := m2
              obtain ⟨i, hi⟩ := ls_mem d x.toInt ps.toList
              obtain ⟨t, e1, e2⟩ := tgs_ok ht hi
              refine ⟨some t, loc, st, hh, 0, 0, t, (A.1, S, A.2.2), ?_, List.mem_map.mpr ⟨t, e2, rfl⟩, rfl, ⟨m1, m2, m3, m4⟩, CST_rf hI, cgd_rf⟩
              unfold xIf xLs
              dsimp only
              rw [e1]
              rfl
      · cases h
/-- an end -/
def t_R (rk : Option cK) (ret : Option FieldType) (i : Instr) (len : Nat) (S : kS) : Bool := match i with
  | .return_ => Nat.beq len 1 && (match ret, rk, S with
    | none, none, [] => true
    | _, _, _ => false)
  | .ireturn => Nat.beq len 1 && (match ret, rk, S with
    | some .int, some K, [q] => ptg 0 q.1 && kle q.1 K
    | some .boolean, some K, [q] => ptg 1 q.1 && kle q.1 K
    | _, _, _ => false)
  | _ => false
theorem t_R_ok {L : xLD} {ml : Nat} {ret : Option FieldType} {E : xCd} {e : Nat × Instr × Nat} {r : xCd} {rk : Option cK} (h : t_R rk ret e.2.1 e.2.2 A.2.1 = true) {loc : cLoc} {st : List Value} {hh : xH} {cs sl : Nat} (hm : mA A loc st) : ∃ v, xIt L ml ret false E e.1 e.2.1 e.2.2 r calls (loc, st, hh, cs, sl) = some (.inr (v, hh, cs, sl)) ∧ rOK rk v := by
  obtain ⟨pc, i, len⟩ := e
  obtain ⟨m1, m2, m3, m4⟩ := hm
  cases i <;> (try (cases h; done))
  case return_ =>
    unfold t_R at h
    dsimp only at h
    rw [Bool.and_eq_true] at h
    split at h
    · rename_i hS
      rw [hS] at m2
      cases st with
      | cons v st => exact absurd m2 id
      | nil =>
        refine ⟨none, ?_, rfl⟩
        show xIf (Nat.beq len 1) (xr0 none) calls _ = _
        rw [h.1]
        rfl
    · cases h.2
  case ireturn =>
    unfold t_R at h
    dsimp only at h
    rw [Bool.and_eq_true] at h
    split at h
    · rename_i K q hS
      obtain ⟨h1, h2⟩ := h
      rw [Bool.and_eq_true] at h2
      rw [hS] at m2
      cases st with
      | nil => exact absurd m2 id
      | cons v st =>
        obtain ⟨v1, -, m2⟩ := m2
        cases st with
        | cons w st => exact absurd m2 id
        | nil =>
          have hv := ptg_ok h2.1 v1
          cases v with
          | int x =>
            refine ⟨some (.int x), ?_, _, rfl, kle_ok h2.2 v1⟩
            show xIf (Nat.beq len 1) (xrtI (some .int)) calls _ = _
            rw [h1]
            rfl
          | _ => cases hv
    · rename_i K q hS
      obtain ⟨h1, h2⟩ := h
      rw [Bool.and_eq_true] at h2
      rw [hS] at m2
      cases st with
      | nil => exact absurd m2 id
      | cons v st =>
        obtain ⟨v1, -, m2⟩ := m2
        cases st with
        | cons w st => exact absurd m2 id
        | nil =>
          have hv := ptg_ok h2.1 v1
          cases v with
          | int x =>
            have hv : (x == 0 || x == 1) = true := hv
            refine ⟨some (.int x), ?_, _, rfl, kle_ok h2.2 v1⟩
            show xIf (Nat.beq len 1) (xrtI (some .boolean)) calls _ = _
            rw [h1]
            unfold xIf xrtI xRetZ
            dsimp only
            rw [hv]
          | _ => cases hv
    · cases h.2
end CHK
