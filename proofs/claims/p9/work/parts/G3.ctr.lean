/-! ===== the class: Rows by kinds ===== -/
theorem CTR_mo {d d' j : Nat} {q : cSg} (hd : d ≤ d') (h : CTR (yex d) j q) : CTR (yex d') j q := by
  intro hh vs hI ha
  obtain ⟨v, h', cs, sl, e, h1, h2⟩ := h hh vs hI ha
  exact ⟨v, h', cs, sl, yex_mono hd j vs hh _ e, h1, h2⟩
/-- less is asked, more is promised -/
def sgle (q q' : cSg) : Bool := kles q'.1 q.1 && ((match q.2.1, q'.2.1 with
  | none, none => true
  | some K, some K' => kle K K'
  | _, _ => false) && wsub q.2.2 q'.2.2)
theorem CTR_le {calls : xC} {j : Nat} {q q' : cSg} (h : CTR calls j q) (hl : sgle q q' = true) : CTR calls j q' := by
  intro hh vs hI ha
  unfold sgle at hl
  rw [Bool.and_eq_true, Bool.and_eq_true] at hl
  obtain ⟨l1, l2, l3⟩ := hl
  obtain ⟨v, h', cs, sl, e, h1, h2⟩ := h hh vs hI (kles_ok l1 ha)
  refine ⟨v, h', cs, sl, e, ?_, CST_mo h2 (fun q hq => wsub_ok l3 hq)⟩
  revert l2 h1
  cases q.2.1 with
  | none =>
    cases q'.2.1 with
    | none => exact fun _ h => h
    | some K' => exact fun w => nomatch w
  | some K =>
    cases q'.2.1 with
    | none => exact fun w => nomatch w
    | some K' =>
      intro w h
      obtain ⟨u, u1, u2⟩ := h
      exact ⟨u, u1, kle_ok w u2⟩
/-- Rows whose cells lie between -/
def rbd (lo hi : Int) : List Nat → Bool
  | [] => true
  | a :: l => (cmem a rowL && (decide (lo ≤ (ckR a).1) && decide ((ckR a).2 ≤ hi))) && rbd lo hi l
theorem rbd_ok {lo hi : Int} {a : Nat} : ∀ {l : List Nat}, rbd lo hi l = true → a ∈ l → a ∈ rowL ∧ lo ≤ (ckR a).1 ∧ (ckR a).2 ≤ hi
  | [], _, h => absurd h List.not_mem_nil
  | b :: l, h, ha => by
    unfold rbd at h
    rw [Bool.and_eq_true, Bool.and_eq_true, Bool.and_eq_true] at h
    rcases List.mem_cons.mp ha with rfl | ha
    · exact ⟨cmem_ok h.1.1, of_decide_eq_true h.1.2.1, of_decide_eq_true h.1.2.2⟩
    · exact rbd_ok h.2 ha
/-- w: as what they are written -/
def rbe (w : Nat) (lo hi : Int) : List Nat → Bool
  | [] => true
  | a :: l => ((cmem a rowL && (Nat.beq (wc a) w && !(cod a))) && (decide ((ckR a).1 ≤ lo) && decide (hi ≤ (ckR a).2))) && rbe w lo hi l
theorem rbe_ok {w : Nat} {lo hi : Int} {a : Nat} : ∀ {l : List Nat}, rbe w lo hi l = true → a ∈ l → a ∈ rowL ∧ wc a = w ∧ (ckR a).1 ≤ lo ∧ hi ≤ (ckR a).2 ∧ cod a = false
  | [], _, h => absurd h List.not_mem_nil
  | b :: l, h, ha => by
    unfold rbe at h
    rw [Bool.and_eq_true, Bool.and_eq_true, Bool.and_eq_true, Bool.and_eq_true, Bool.and_eq_true] at h
    rcases List.mem_cons.mp ha with rfl | ha
    · exact ⟨cmem_ok h.1.1.1, Nat.eq_of_beq_eq_true h.1.1.2.1, of_decide_eq_true h.1.2.1, of_decide_eq_true h.1.2.2, by have := h.1.1.2.2; cases hc : cod a with | true => rw [hc] at this; cases this | false => rfl⟩
    · exact rbe_ok h.2 ha
/-- Row.get -/
theorem k_get {d : Nat} {S : List Nat} {lo hi : Int} (h : rbd lo hi S = true) : CTR (yex (d + 1)) 76 ([.inr (.inl S), kint], some (.inl (lo, hi)), []) := by
  intro hh vs hI ha
  match vs, ha with
  | [v1, v2], ⟨⟨a, e1, ha⟩, ⟨x, e2, _⟩, _⟩ =>
    subst e1 e2
    obtain ⟨ha, b1, b2⟩ := rbd_ok h ha
    obtain ⟨v, e, hv⟩ := y_76 (d := d) (x := x) hI ha
    refine ⟨_, _, _, _, e, ⟨_, rfl, v, rfl, ?_⟩, CST_rf hI⟩
    rcases hv with rfl | ⟨c, n, f, q1, q2, q3, rfl⟩
    · have := ck0 a ha
      rw [i0]
      omega
    · obtain ⟨c', n', f', z, -, -, p3, -, -, -, p7⟩ := row_of hI ha
      rw [q1] at p3
      cases p3
      have := (p7 x.toInt.toNat (by omega)).1
      omega
/-- Row.set -/
theorem k_set {d w : Nat} {S : List Nat} {lo hi : Int} (h : rbe w lo hi S = true) : CTR (yex (d + 2)) 77 ([.inr (.inl S), kint, .inl (lo, hi)], none, [(w, 1)]) := by
  intro hh vs hI ha
  match vs, ha with
  | [v1, v2, v3], ⟨⟨a, e1, ha⟩, ⟨x, e2, _⟩, ⟨v, e3, u1, u2⟩, _⟩ =>
    subst e1 e2 e3
    obtain ⟨ha, b0, b1, b2, b3⟩ := rbe_ok h ha
    obtain ⟨h', cs, sl, e, hc⟩ := y_77 (d := d) (x := x) (v := v) hI ha (by omega) (fun w => by rw [b3] at w; cases w)
    rw [b0] at hc
    exact ⟨_, _, _, _, e, rfl, hc⟩
theorem a_nil {calls : xC} : ∀ p ∈ ([] : List (Nat × cSg)), CTR calls p.1 p.2 := fun _ h => absurd h List.not_mem_nil
theorem a_cns {calls : xC} {j : Nat} {q : cSg} {T : List (Nat × cSg)} (h : CTR calls j q) (hT : ∀ p ∈ T, CTR calls p.1 p.2) : ∀ p ∈ ((j, q) :: T), CTR calls p.1 p.2 := List.forall_mem_cons.mpr ⟨h, hT⟩
