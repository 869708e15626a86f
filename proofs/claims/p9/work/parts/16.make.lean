/-! ===== a method out of its decoded code ===== -/
abbrev xCd : Type := List (Nat × Instr × Nat)
def xNx (r : xCd) (n : Nat) : Bool := match r with
  | [] => false
  | e :: _ => Nat.beq e.1 n
def xfn (t : Nat) : xCd → Nat → Option Nat
  | [], _ => none
  | e :: r, n => match Nat.beq e.1 t with
    | true => some n
    | false => xfn t r (n + 1)
def xgt (E : xCd) (pc : Nat) (off : Int) : Option Nat := match decide (0 ≤ (pc : Int) + off) with
  | true => xfn ((pc : Int) + off).toNat E 0
  | false => none
def xr0 (ret : Option FieldType) : xF := match ret with
  | none => xRet0
  | some _ => xNone
def xIt (L : xLD) (ml : Nat) (ret : Option FieldType) (ini : Bool) (E : xCd) (pc : Nat) (i : Instr) (len : Nat) (r : xCd) : xF := match i with
  | .goto off => xIf (Nat.beq len 3) (xGo (xgt E pc off) xc_go)
  | .return_ => xIf (Nat.beq len 1) (xr0 ret)
  | .ireturn => xIf (Nat.beq len 1) (xrtI ret)
  | .areturn => xIf (Nat.beq len 1 && xisO ret) xRetA
  | .tableswitch d lo hi offs => xTs lo hi offs.toList d (xgt E pc)
  | .lookupswitch d ps => xIf ((ps.toList.zip (ps.toList.drop 1)).all (fun (a, next) => a.1 < next.1)) (xLs ps.toList d (xgt E pc))
  | i => xIf (Nat.beq (xln i) len && xNx r (pc + len)) (xSe L ml ini (xgt E pc) i)
def xmk (L : xLD) (ml : Nat) (ret : Option FieldType) (ini : Bool) (E : xCd) : xCd → xK
  | [] => []
  | e :: r => (e.1, xIt L ml ret ini E e.1 e.2.1 e.2.2 r) :: xmk L ml ret ini E r
section XMK
variable {sg : Nat → Option xM} {M : xM} {L : xLD} {ml : Nat} {ret : Option FieldType} {ini : Bool} {E : xCd}
theorem xmk_drop : ∀ (t : Nat) (l : xCd), (xmk L ml ret ini E l).drop t = xmk L ml ret ini E (l.drop t)
  | 0, l => rfl
  | t + 1, [] => by simp [xmk]
  | t + 1, e :: r => xmk_drop t r
theorem xfn_spec {t : Nat} : ∀ (l : xCd) (n m : Nat), xfn t l n = some m → n ≤ m ∧ ∃ e, l[m - n]? = some e ∧ e.1 = t
  | [], n, m, h => by cases h
  | e :: r, n, m, h => by
    unfold xfn at h
    cases hb : Nat.beq e.1 t with
    | true =>
      rw [hb] at h
      cases h
      exact ⟨Nat.le_refl _, e, by rw [Nat.sub_self]; rfl, Nat.eq_of_beq_eq_true hb⟩
    | false =>
      rw [hb] at h
      obtain ⟨h1, e1, h2, h3⟩ := xfn_spec r (n + 1) m h
      refine ⟨by omega, e1, ?_, h3⟩
      rw [show m - n = (m - (n + 1)) + 1 by omega]
      exact h2
theorem xmk_pc {l : xCd} {e : Nat × Instr × Nat} {t : Nat} (h : l[t]? = some e) : xpc (xmk L ml ret ini E (l.drop t)) = e.1 := by
  have h1 : t < l.length := (List.getElem?_eq_some_iff.mp h).1
  rw [List.drop_eq_getElem_cons h1]
  show l[t].1 = e.1
  rw [(List.getElem?_eq_some_iff.mp h).2]
theorem xgt_ok {pc : Nat} (off : Int) (t : Nat) (h : xgt E pc off = some t) : (pc : Int) + off = ((xpc ((xmk L ml ret ini E E).drop t) : Nat) : Int) := by
  unfold xgt at h
  cases hb : decide (0 ≤ (pc : Int) + off) with
  | false => rw [hb] at h; cases h
  | true =>
    rw [hb] at h
    obtain ⟨-, e, h2, h3⟩ := xfn_spec E 0 t h
    rw [Nat.sub_zero] at h2
    rw [xmk_drop, xmk_pc h2, h3]
    have := of_decide_eq_true hb
    omega
theorem xNx_ok {r : xCd} {n : Nat} (h : xNx r n = true) : xpc (xmk L ml ret ini E r) = n := by
  cases r with
  | nil => cases h
  | cons e r => exact Nat.eq_of_beq_eq_true h
theorem xIt_ok {pc len : Nat} {r : xCd} (hL : xLinks sg M.1.cls L) (hini : ini = true → M.1.name = "<init>") (i : Instr) (hd : decode M.2.1 pc = .ok (i, len)) : xOK sg M (xmk L M.2.2.1 M.2.2.2 ini E E) (pc, xIt L M.2.2.1 M.2.2.2 ini E pc i len r) (xmk L M.2.2.1 M.2.2.2 ini E r) := by
  have hg := fun off t => xgt_ok (L := L) (ml := M.2.2.1) (ret := M.2.2.2) (ini := ini) (E := E) (pc := pc) off t
  have key : xOK sg M (xmk L M.2.2.1 M.2.2.2 ini E E) (pc, xIf (Nat.beq (xln i) len && xNx r (pc + len)) (xSe L M.2.2.1 ini (xgt E pc) i)) (xmk L M.2.2.1 M.2.2.2 ini E r) := by
    refine xIf_ok (fun h => ?_)
    rw [Bool.and_eq_true] at h
    have e1 := Nat.eq_of_beq_eq_true h.1
    subst e1
    exact xSe_ok hL hini hg i hd (xNx_ok h.2)
  cases i with
  | goto off =>
    refine xIf_ok (fun h => ?_)
    have e1 := Nat.eq_of_beq_eq_true h
    subst e1
    refine xGo_ok (fun t ht => ?_)
    exact xok_br (pc' := xpc (xmk L M.2.2.1 M.2.2.2 ini E r)) (fun p l e R s m args below meth c b aS D cT C Q H locs cells slots ls st q ho k => by
      cases ho
      exact lv_goto C.1 C.2.1 hd (hg _ _ ht) k) rfl rfl
  | return_ =>
    refine xIf_ok (fun h => ?_)
    have e1 := Nat.eq_of_beq_eq_true h
    subst e1
    cases hr : M.2.2.2 with
    | none => exact xok_ret0 hd hr
    | some t => exact xok_none
  | ireturn =>
    refine xIf_ok (fun h => ?_)
    have e1 := Nat.eq_of_beq_eq_true h
    subst e1
    cases hr : M.2.2.2 with
    | none => exact xok_none
    | some t =>
      cases t with
      | int => exact xok_retI hd hr
      | boolean => exact xok_retZ hd hr
      | _ => exact xok_none
  | areturn =>
    refine xIf_ok (fun h => ?_)
    rw [Bool.and_eq_true] at h
    have e1 := Nat.eq_of_beq_eq_true h.1
    subst e1
    exact xok_retA hd h.2
  | tableswitch d lo hi offs => exact xTs_ok hd hg
  | lookupswitch d ps => exact xIf_ok (fun h => xok_ls hd h hg)
  | _ => exact key
theorem xmk_ok (hL : xLinks sg M.1.cls L) (hini : ini = true → M.1.name = "<init>") : ∀ l : xCd, (∀ e ∈ l, decode M.2.1 e.1 = .ok e.2) → xOKs sg M (xmk L M.2.2.1 M.2.2.2 ini E E) (xmk L M.2.2.1 M.2.2.2 ini E l)
  | [], _ => trivial
  | e :: r, h => ⟨xIt_ok hL hini e.2.1 (h e List.mem_cons_self), xmk_ok hL hini r (fun q hq => h q (List.mem_cons_of_mem _ hq))⟩
end XMK
