/-! ===== behind, isSame, envs ===== -/
def GC (s : yS) : Prop := ∀ i, 0 ≤ (s.2.1 265 i).toInt ∧ (s.2.1 265 i).toInt ≤ 10000
section ENV
variable {d : Nat} {s : yS}
theorem isF_0 {L : List Nat} (h : isF 0 L) : L = [] := by
  cases L with
  | nil => rfl
  | cons x L => exact absurd h.1 (by omega)
theorem s_186 {p l : Nat} {a1 : Int32} (hT : TYN s) (h1 : a1.toInt = (p : Int)) (hl : p + l ≤ 200000) (hF : isF 1 (seg s p l)) : Tot (d + 1) 186 [.ref 213, .int a1] s (fun v s' => s' = s ∧ ∃ x : Int32, v = some (.int x) ∧ x.toInt = (p : Int) + l) := by
  refine t_186 ?_
  refine ⟨fun b1 b2 b3 t => b1 = a1 ∧ t = s ∧ ∃ q r k : Nat, b3.toInt = (q : Int) ∧ q + r = p + l ∧ p ≤ q ∧ b2.toInt = (k : Int) ∧ isF k (seg s q r) ∧ k ≤ 1 + 7 * (q - p), fun _ _ b3 _ => ((p : Int) + l - b3.toInt).toNat, ⟨rfl, rfl, p, l, 1, h1, rfl, Nat.le_refl _, by decide, hF, by omega⟩, ?_⟩
  rintro b1 b2 b3 t ⟨rfl, rfl, q, r, k, h3, h4, h5, h6, h7, h8⟩
  unfold w_186_4
  refine ⟨fun h => ⟨rfl, b3, rfl, ?_⟩, fun h => ?_⟩
  · have k0 : k = 0 := by omega
    rw [k0] at h7
    have := isF_0 h7
    have hr := seg_len (s := t) (p := q) (l := r)
    rw [this] at hr
    have : r = 0 := hr.symm
    omega
  · cases r with
    | zero =>
      have : k = 0 := h7
      omega
    | succ r =>
      have e3 : b3.toInt.toNat = q := by omega
      rw [e3]
      have ht := hT q
      have h9 : isF (k - 1 + tyE t q % 8) (seg t (q + 1) r) := h7.2
      have h10 : (tyE t q : Int) = (t.2.1 264 q).toInt := by unfold tyE; omega
      refine ⟨by omega, ht.1, fun x1 hx1 => ⟨by omega, fun x2 hx2 => ⟨by omega, fun x3 hx3 => ⟨by omega, fun x4 hx4 => ⟨⟨rfl, rfl, q + 1, r, k - 1 + tyE t q % 8, by omega, by omega, by omega, by omega, h9, by omega⟩, ?_⟩⟩⟩⟩⟩
      show ((p : Int) + l - x4.toInt).toNat < ((p : Int) + l - b3.toInt).toNat
      omega
theorem s_187 {p l q m : Nat} {a1 a2 a3 a4 : Int32} (h1 : a1.toInt = (p : Int)) (h2 : a2.toInt = (l : Int)) (h3 : a3.toInt = (q : Int)) (h4 : a4.toInt = (m : Int)) (hp : p + l ≤ 200000) (hq : q + m ≤ 200000) (hT : TYN s) : Tot (d + 1) 187 [.ref 213, .int a1, .int a2, .int a3, .int a4] s (fun v s' => s' = s ∧ ∃ x : Int32, v = some (.int x) ∧ (x.toInt = 0 ∨ (x.toInt = 1 ∧ l = m ∧ seg s p l = seg s q m))) := by
  refine t_187 ?_
  have key : ∀ t0 : Int32, (t0.toInt = 0 ∨ (t0.toInt = 1 ∧ l = m)) → w_187_6 (Tot d) a1 a2 a3 a4 t0 s (fun v s' => s' = s ∧ ∃ x : Int32, v = some (.int x) ∧ (x.toInt = 0 ∨ (x.toInt = 1 ∧ l = m ∧ seg s p l = seg s q m))) := by
    intro t0 h0
    unfold w_187_6
    refine ⟨fun b1 b2 b3 b4 b5 b6 t => b1 = a1 ∧ b2 = a2 ∧ b3 = a3 ∧ b4 = a4 ∧ t = s ∧ ∃ k : Nat, b6.toInt = (k : Int) ∧ k ≤ l ∧ (b5.toInt = 0 ∨ (b5.toInt = 1 ∧ l = m ∧ seg s p k = seg s q k)), fun _ _ _ _ _ b6 _ => ((l : Int) - b6.toInt).toNat, ⟨rfl, rfl, rfl, rfl, rfl, 0, by decide, by omega, h0.imp id (fun h => ⟨h.1, h.2, rfl⟩)⟩, ?_⟩
    rintro b1 b2 b3 b4 b5 b6 t ⟨rfl, rfl, rfl, rfl, rfl, k, g1, g2, g3⟩
    have end33 : (k = l ∨ b5.toInt = 0) → w_187_33 (Tot d) b1 b2 b3 b4 b5 b6 t (fun v s' => s' = t ∧ ∃ x : Int32, v = some (.int x) ∧ (x.toInt = 0 ∨ (x.toInt = 1 ∧ l = m ∧ seg t p l = seg t q m))) := by
      intro hk
      unfold w_187_33
      refine ⟨by omega, rfl, b5, rfl, ?_⟩
      rcases g3 with g3 | g3
      · exact Or.inl g3
      · rcases hk with hk | hk
        · refine Or.inr ⟨g3.1, g3.2.1, ?_⟩
          rw [← g3.2.1, ← hk]
          exact g3.2.2
        · exact Or.inl hk
    unfold w_187_9
    refine ⟨fun h => end33 (Or.inl (by omega)), fun h => ⟨fun h5 => end33 (Or.inr h5), fun h5 => ?_⟩⟩
    have g3 := g3.resolve_left h5
    refine ⟨by omega, fun x1 hx1 => ⟨by omega, by omega, fun x2 hx2 => ⟨by omega, fun hne => ?_, fun heq => ?_⟩⟩⟩
    · unfold w_187_30
      exact ⟨by omega, fun x3 hx3 => ⟨⟨rfl, rfl, rfl, rfl, rfl, k + 1, by omega, by omega, Or.inl (by decide)⟩, by show ((l : Int) - x3.toInt).toNat < ((l : Int) - b6.toInt).toNat; omega⟩⟩
    · unfold w_187_30
      refine ⟨by omega, fun x3 hx3 => ⟨⟨rfl, rfl, rfl, rfl, rfl, k + 1, by omega, by omega, Or.inr ⟨by decide, g3.2.1, ?_⟩⟩, by show ((l : Int) - x3.toInt).toNat < ((l : Int) - b6.toInt).toNat; omega⟩⟩
      rw [seg_add, seg_add, g3.2.2]
      have e1 : x1.toInt.toNat = p + k := by omega
      have e2 : x2.toInt.toNat = q + k := by omega
      rw [e1, e2] at heq
      have : seg t (p + k) 1 = seg t (q + k) 1 := by
        show [tyE t (p + k)] = [tyE t (q + k)]
        unfold tyE
        rw [heq]
      rw [this]
  unfold w_187_0
  exact ⟨fun _ => key 0 (Or.inl (by decide)), fun h => key 1 (Or.inr ⟨by decide, by omega⟩)⟩
theorem s_188 {E : Nat} (hE : (s.1 70).toInt = (E : Int)) (h : E < 300) : Tot (d + 1) 188 [.ref 213] s (fun v s' => v = some (.int (s.1 70)) ∧ ∃ x : Int32, x.toInt = (E : Int) + 1 ∧ s' = sf (sa (sa s 266 (2 * E) 0) 266 (2 * E + 1) 0) 70 x) := by
  refine t_188 ?_
  unfold w_188_0
  refine ⟨by omega, fun x1 hx1 => ⟨by omega, ?_⟩⟩
  rintro s2 rfl
  have e : ∀ (w : yS) (p i : Nat) (v : Int32), (sa w p i v).1 70 = w.1 70 := fun _ _ _ _ => rfl
  rw [e]
  refine ⟨by omega, fun x3 hx3 => ⟨by omega, fun x4 hx4 => ⟨by omega, ?_⟩⟩⟩
  rintro s5 rfl
  rw [e, e]
  refine ⟨by omega, ?_⟩
  rintro x6 hx6 s7 rfl
  have e7 : (sf (sa (sa s 266 x1.toInt.toNat 0) 266 x4.toInt.toNat 0) 70 x6).1 70 = x6 := rfl
  rw [e7]
  refine ⟨by omega, fun x8 hx8 => ⟨?_, x6, by omega, ?_⟩⟩
  · rw [show x8 = s.1 70 from Int32.toInt_inj.mp (by omega)]
  · rw [show x1.toInt.toNat = 2 * E by omega, show x4.toInt.toNat = 2 * E + 1 by omega]
/-- a group of an env: its first code, and what is given; all of it ahead of top -/
def EVg (s : yS) (i base top : Nat) (As : List (List Nat)) : Prop := (s.2.1 265 i).toInt = (base : Int) ∧ (s.2.1 266 i).toInt = (As.length : Int) ∧ As.length ≤ 6 ∧ ∀ a A, As[a]? = some A → isF 1 A ∧ ∃ q : Nat, (s.2.1 267 (6 * i + a)).toInt = (q : Int) ∧ (s.2.1 268 (6 * i + a)).toInt = (A.length : Int) ∧ seg s q A.length = A ∧ q + A.length ≤ top
def grp (base : Nat) (As : List (List Nat)) (c : Nat) : Option (List Nat) := if base ≤ c then As[c - base]? else none
def envS (b0 : Nat) (As : List (List Nat)) (b1 : Nat) (Bs : List (List Nat)) (c : Nat) : Option (List Nat) := if c < 1000 then none else match grp b0 As c with
  | some A => some A
  | none => grp b1 Bs c
/-- an env -/
def EV (s : yS) (e top b0 : Nat) (As : List (List Nat)) (b1 : Nat) (Bs : List (List Nat)) : Prop := EVg s (2 * e) b0 top As ∧ EVg s (2 * e + 1) b1 top Bs
theorem s_192 {e top b0 b1 c : Nat} {As Bs : List (List Nat)} {a1 a2 : Int32} (hV : EV s e top b0 As b1 Bs) (he : e < 300) (h1 : a1.toInt = (c : Int)) (hc : c ≤ 10000) (h2 : a2.toInt = (e : Int)) (hG : GC s) : Tot (d + 1) 192 [.ref 213, .int a1, .int a2] s (fun v s' => s' = s ∧ ∃ x : Int32, v = some (.int x) ∧ ((x.toInt = -1 ∧ envS b0 As b1 Bs c = none) ∨ (0 ≤ x.toInt ∧ x.toInt < 3600 ∧ ∃ A, envS b0 As b1 Bs c = some A ∧ isF 1 A ∧ ∃ q : Nat, (s.2.1 267 x.toInt.toNat).toInt = (q : Int) ∧ (s.2.1 268 x.toInt.toNat).toInt = (A.length : Int) ∧ seg s q A.length = A ∧ q + A.length ≤ top))) := by
  refine t_192 ?_
  refine ⟨fun b1' b2' b3 t => b1' = a1 ∧ b2' = a2 ∧ t = s ∧ ((b3.toInt = 0) ∨ (b3.toInt = 1 ∧ (c < 1000 ∨ grp b0 As c = none)) ∨ (b3.toInt = 2 ∧ (c < 1000 ∨ (grp b0 As c = none ∧ grp b1 Bs c = none)))), fun _ _ b3 _ => (3 - b3.toInt).toNat, ⟨rfl, rfl, rfl, Or.inl (by decide)⟩, ?_⟩
  rintro b1' b2' b3 t ⟨e1, e2, e3, h3⟩
  have e1 := e1.symm
  have e2 := e2.symm
  have e3 := e3.symm
  subst e1 e2 e3
  have none37 : (c < 1000 ∨ (grp b0 As c = none ∧ grp b1 Bs c = none)) → w_192_37 (Tot d) a1 a2 b3 s (fun v s' => s' = s ∧ ∃ x : Int32, v = some (.int x) ∧ ((x.toInt = -1 ∧ envS b0 As b1 Bs c = none) ∨ (0 ≤ x.toInt ∧ x.toInt < 3600 ∧ ∃ A, envS b0 As b1 Bs c = some A ∧ isF 1 A ∧ ∃ q : Nat, (s.2.1 267 x.toInt.toNat).toInt = (q : Int) ∧ (s.2.1 268 x.toInt.toNat).toInt = (A.length : Int) ∧ seg s q A.length = A ∧ q + A.length ≤ top))) := by
    intro hc
    unfold w_192_37
    refine ⟨rfl, -1, rfl, Or.inl ⟨by decide, ?_⟩⟩
    unfold envS
    split
    · rfl
    · rename_i q
      have := hc.resolve_left q
      rw [this.1]
      exact this.2
  unfold w_192_2
  refine ⟨fun h => none37 ?_, fun h => ⟨fun h5 => none37 (Or.inl (by omega)), fun h5 => ?_⟩⟩
  · rcases h3 with h3 | h3 | h3
    · omega
    · omega
    · exact h3.2
  · obtain ⟨i, base, Cs, hg, hi, hib, hsome, hnone⟩ : ∃ (i base : Nat) (Cs : List (List Nat)), EVg s i base top Cs ∧ i < 600 ∧ (i : Int) = 2 * e + b3.toInt ∧ (∀ A, grp base Cs c = some A → envS b0 As b1 Bs c = some A) ∧ (grp base Cs c = none → (b3.toInt + 1 = 1 ∧ (c < 1000 ∨ grp b0 As c = none)) ∨ (b3.toInt + 1 = 2 ∧ (c < 1000 ∨ (grp b0 As c = none ∧ grp b1 Bs c = none)))) := by
      rcases h3 with h3 | h3 | h3
      · refine ⟨2 * e, b0, As, hV.1, by omega, by omega, fun A hA => ?_, fun hno => Or.inl ⟨by omega, Or.inr hno⟩⟩
        unfold envS
        rw [if_neg (by omega), hA]
      · refine ⟨2 * e + 1, b1, Bs, hV.2, by omega, by omega, fun A hA => ?_, fun hno => Or.inr ⟨by omega, h3.2.imp id (fun q => ⟨q, hno⟩)⟩⟩
        unfold envS
        rw [if_neg (by omega), h3.2.resolve_left (by omega)]
        exact hA
      · omega
    obtain ⟨g1, g2, g3, g4⟩ := hg
    refine ⟨by omega, fun x1 hx1 => ⟨by omega, fun x2 hx2 => ?_⟩⟩
    have ei : x2.toInt.toNat = i := by omega
    rw [ei]
    have hGi := hG i
    have nx : grp base Cs c = none → (-2147483648 ≤ b3.toInt + 1 ∧ b3.toInt + 1 ≤ 2147483647) ∧ ∀ y : Int32, y.toInt = b3.toInt + 1 → ((a1 = a1 ∧ a2 = a2 ∧ s = s ∧ ((y.toInt = 0) ∨ (y.toInt = 1 ∧ (c < 1000 ∨ grp b0 As c = none)) ∨ (y.toInt = 2 ∧ (c < 1000 ∨ (grp b0 As c = none ∧ grp b1 Bs c = none))))) ∧ (3 - y.toInt).toNat < (3 - b3.toInt).toNat) := by
      intro hno
      have := hnone hno
      refine ⟨by omega, fun y hy => ⟨⟨rfl, rfl, rfl, ?_⟩, by omega⟩⟩
      rcases this with this | this
      · exact Or.inr (Or.inl ⟨by omega, this.2⟩)
      · exact Or.inr (Or.inr ⟨by omega, this.2⟩)
    refine ⟨by omega, by omega, fun x3 hx3 => ⟨fun q => nx ?_, fun q => ⟨by omega, fun q2 => nx ?_, fun q2 => ⟨by omega, fun x4 hx4 => ⟨by omega, fun x5 hx5 => ⟨rfl, x5, rfl, Or.inr ?_⟩⟩⟩⟩⟩⟩
    · unfold grp
      rw [if_neg (by omega)]
    · unfold grp
      rw [if_pos (by omega)]
      exact List.getElem?_eq_none (by omega)
    · have hlt : c - base < Cs.length := by omega
      have hA : Cs[c - base]? = some Cs[c - base] := List.getElem?_eq_getElem hlt
      obtain ⟨w1, q, w2, w3, w4, w5⟩ := g4 _ _ hA
      have e5 : x5.toInt.toNat = 6 * i + (c - base) := by omega
      refine ⟨by omega, by omega, Cs[c - base], hsome _ ?_, w1, q, by rw [e5]; exact w2, by rw [e5]; exact w3, w4, w5⟩
      unfold grp
      rw [if_pos (by omega)]
      exact hA
end ENV
