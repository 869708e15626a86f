/-! ===== cutAll: a word, then all ===== -/
theorem cut_79 {d b i W : Nat} {s0 s : yS} {a1 a2 a3 a4 : Int32} {a5 : Int64} {R : Int32 → Int32 → yS → Prop} {P : Option Value → yS → Prop} (hb : b < 3) (e9 : (s0.1 9).toInt = (b : Int)) (hsz : (s0.1 3).toInt ≤ 4000) (hs1 : s.1 = s0.1) (hF : CF b s0 s) (ha1 : a1.toInt = 4002 * (b : Int) + i) (hi : (i : Int) ≤ a4.toInt) (h4 : 0 ≤ a4.toInt) (h42 : a4.toInt < a2.toInt) (h2 : a2.toInt ≤ (s0.1 3).toInt) (hW : (s.2.1 220 b).toInt = (W : Int)) (hC : CT b i W s) (hK : WKp b W s.2.2) (hg5 : 0 < a5.toInt ∧ a5.toInt < 18014398509481984) (hp : (s.2.1 216 (4002 * b + i)).toInt = a4.toInt) (h2W : 2 * (W : Int) ≤ 78 + a4.toInt) (hend : a2.toInt = (s0.1 3).toInt ∨ isLt (s0.2.1 214 a2.toInt.toNat).toInt = false) (hw : ∀ j : Nat, a4.toInt ≤ (j : Int) → (j : Int) < a2.toInt → isLt (s0.2.1 214 j).toInt = true ∨ isDg (s0.2.1 214 j).toInt = true) (hR : ∀ (x1 : Int32) (s' : yS), CI b s0 x1 a2 s' → R x1 a2 s') : w_162_79 (Tot (d + 1)) R a1 a2 a3 a4 a5 s P := by
  have e14 : s.2.1 214 = s0.2.1 214 := hF.1 214 (by decide)
  unfold w_162_79 wl_162_85
  refine ⟨by omega, fun x hx => ⟨fun b1 b2 _ b4 b5 b7 b9 s' => b1 = a1 ∧ b2 = a2 ∧ b4 = a4 ∧ s' = s ∧ b5 = a5 ∧ a4.toInt + 9 ≤ b9.toInt ∧ b9.toInt ≤ 4100 ∧ b9.toInt ≤ a4.toInt + 12 ∧ pkd (b9.toInt - (a4.toInt + 9)).toNat b7, fun _ _ _ _ _ _ b9 _ => (4200 - b9.toInt).toNat, ⟨rfl, rfl, rfl, rfl, rfl, by omega, by omega, by omega, by rw [show (x.toInt - (a4.toInt + 9)).toNat = 0 by omega]; exact pkd_0⟩, ?_⟩⟩
  rintro b1 b2 b3 b4 b5 b7 b9 s' ⟨rfl, rfl, rfl, rfl, rfl, h9, h9', h9a, h9b⟩
  unfold w_162_85
  have fin := cut_106 (d := d) (a3 := b3) (a5 := b5) (a7 := b7) (a9 := b9) (P := P) hb e9 hsz hs1 hF ha1 hi h4 h42 h2 hW hC hK ⟨hg5.1, hg5.2, h9b.1, by have := h9b.2.1; have := p64_le (k := (b9.toInt - (b4.toInt + 9)).toNat) (by omega); omega⟩ hp h2W hend hR
  refine ⟨fun _ => fin, fun h1 => ⟨by omega, fun x1 hx1 => ⟨fun _ => fin, fun h3 => ⟨by omega, ?_⟩⟩⟩⟩
  refine Tot.imp (s_158 ?_) ?_
  · rw [e14]
    exact isLtD (hw b9.toInt.toNat (by omega) (by omega))
  · rintro v s2 ⟨rfl, r, rfl, hr⟩
    have hr := hr (by rw [e14]; exact hw b9.toInt.toNat (by omega) (by omega))
    exact ⟨r, rfl, by omega, fun x5 hx5 => ⟨⟨rfl, rfl, rfl, rfl, rfl, by omega, by omega, by omega, by rw [show (x5.toInt - (b4.toInt + 9)).toNat = (b9.toInt - (b4.toInt + 9)).toNat + 1 by omega]; exact pkd_1 h9b (by omega) hr⟩, by show (4200 - x5.toInt).toNat < (4200 - b9.toInt).toNat; omega⟩⟩
theorem cut_43 {d b i W : Nat} {s0 s : yS} {a1 a3 a4 : Int32} {R : Int32 → Int32 → yS → Prop} {P : Option Value → yS → Prop} (hb : b < 3) (e9 : (s0.1 9).toInt = (b : Int)) (hsz : (s0.1 3).toInt ≤ 4000) (hs1 : s.1 = s0.1) (hF : CF b s0 s) (ha1 : a1.toInt = 4002 * (b : Int) + i) (hi : (i : Int) ≤ a4.toInt) (h4 : 0 ≤ a4.toInt) (h42 : a4.toInt < (s0.1 3).toInt) (hW : (s.2.1 220 b).toInt = (W : Int)) (hC : CT b i W s) (hK : WKp b W s.2.2) (hp : (s.2.1 216 (4002 * b + i)).toInt = a4.toInt) (h2W : 2 * (W : Int) ≤ 78 + a4.toInt) (hl : isLt (s0.2.1 214 a4.toInt.toNat).toInt = true) (hR : ∀ (x1 a2 : Int32) (s' : yS), a4.toInt < a2.toInt → CI b s0 x1 a2 s' → R x1 a2 s') : wl_162_43 (Tot (d + 1)) R a1 a4 a3 a4 0 s P := by
  have e14 : s.2.1 214 = s0.2.1 214 := hF.1 214 (by decide)
  unfold wl_162_43
  refine ⟨fun b1 b2 _ b4 b5 s' => b1 = a1 ∧ b4 = a4 ∧ s' = s ∧ pkd (min (b2.toInt - a4.toInt).toNat 9) b5 ∧ a4.toInt ≤ b2.toInt ∧ b2.toInt ≤ (s0.1 3).toInt ∧ ∀ j : Nat, a4.toInt ≤ (j : Int) → (j : Int) < b2.toInt → isLt (s0.2.1 214 j).toInt = true ∨ isDg (s0.2.1 214 j).toInt = true, fun _ b2 _ _ _ _ => (4000 - b2.toInt).toNat, ⟨rfl, rfl, rfl, by rw [show min (a4.toInt - a4.toInt).toNat 9 = 0 by omega]; exact pkd_0, Int.le_refl _, by omega, fun j h1 h2 => by omega⟩, ?_⟩
  rintro b1 b2 b3 b4 b5 s' ⟨rfl, rfl, rfl, hk5, h5, h6, h7⟩
  unfold w_162_43
  have e3 : (s'.1 3) = s0.1 3 := by rw [hs1]
  have ex : b4.toInt < b2.toInt → (b2.toInt = (s0.1 3).toInt ∨ isLt (s0.2.1 214 b2.toInt.toNat).toInt = false) → w_162_79 (Tot (d + 1)) R b1 b2 b3 b4 b5 s' P := fun h8 h9 => cut_79 hb e9 hsz hs1 hF ha1 hi h4 h8 h6 hW hC hK ⟨hk5.2.2 (by omega), by have := hk5.2.1; have := p64_le (k := min (b2.toInt - b4.toInt).toNat 9) (by omega); omega⟩ hp h2W h9 h7 (fun x1 s'' h => hR x1 b2 s'' h8 h)
  rw [e3, e14]
  have on : b2.toInt < (s0.1 3).toInt → (isLt (s0.2.1 214 b2.toInt.toNat).toInt = true ∨ isDg (s0.2.1 214 b2.toInt.toNat).toInt = true) → w_162_59 (Tot (d + 1)) R (fun a1' a2' a3' a4' a5' s'' => (a1' = b1 ∧ a4' = b4 ∧ s'' = s' ∧ pkd (min (a2'.toInt - b4.toInt).toNat 9) a5' ∧ b4.toInt ≤ a2'.toInt ∧ a2'.toInt ≤ (s0.1 3).toInt ∧ ∀ j : Nat, b4.toInt ≤ (j : Int) → (j : Int) < a2'.toInt → isLt (s0.2.1 214 j).toInt = true ∨ isDg (s0.2.1 214 j).toInt = true) ∧ (4000 - a2'.toInt).toNat < (4000 - b2.toInt).toNat) b1 b2 b3 b4 b5 s' P := by
    intro h8 h9
    unfold w_162_59 w_162_76
    have nx : ∀ (x1 : Int32) (v5 : Int64), pkd (min (b2.toInt + 1 - b4.toInt).toNat 9) v5 → x1.toInt = b2.toInt + 1 → (b1 = b1 ∧ b4 = b4 ∧ s' = s' ∧ pkd (min (x1.toInt - b4.toInt).toNat 9) v5 ∧ b4.toInt ≤ x1.toInt ∧ x1.toInt ≤ (s0.1 3).toInt ∧ ∀ j : Nat, b4.toInt ≤ (j : Int) → (j : Int) < x1.toInt → isLt (s0.2.1 214 j).toInt = true ∨ isDg (s0.2.1 214 j).toInt = true) ∧ (4000 - x1.toInt).toNat < (4000 - b2.toInt).toNat := by
      intro x1 v5 hv5 hx1
      refine ⟨⟨rfl, rfl, rfl, by rw [hx1]; exact hv5, by omega, by omega, fun j j1 j2 => ?_⟩, by omega⟩
      by_cases e : (j : Int) = b2.toInt
      · rw [show j = b2.toInt.toNat by omega]
        exact h9
      · exact h7 j j1 (by omega)
    refine ⟨by omega, fun x1 hx1 => ⟨fun h10 => ⟨by omega, fun x1 => nx x1 b5 (by rw [show min (b2.toInt + 1 - b4.toInt).toNat 9 = min (b2.toInt - b4.toInt).toNat 9 by omega]; exact hk5)⟩, fun h10 => ⟨by omega, ?_⟩⟩⟩
    refine Tot.imp (s_158 (by rw [e14]; exact isLtD h9)) ?_
    rintro v s2 ⟨rfl, r, rfl, hr⟩
    have hr := hr (by rw [e14]; exact h9)
    exact ⟨r, rfl, by omega, fun x1 => nx x1 _ (by rw [show min (b2.toInt + 1 - b4.toInt).toNat 9 = min (b2.toInt - b4.toInt).toNat 9 + 1 by omega]; exact pkd_1 hk5 (by omega) hr)⟩
  refine ⟨fun h8 => ex (by omega) (Or.inl (by omega)), fun h8 => ⟨by omega, ?_⟩⟩
  refine Tot.imp s_156 ?_
  rintro v s2 ⟨rfl, r, rfl, hr⟩
  refine ⟨r, rfl, fun h9 => on (by omega) (Or.inl ?_), fun h9 => ⟨by omega, ?_⟩⟩
  · rcases hr with hr | hr
    · exact hr.2
    · exact absurd hr.1 h9
  · have nl : isLt (s0.2.1 214 b2.toInt.toNat).toInt = false := by
      rcases hr with hr | hr
      · omega
      · exact hr.2
    rw [e14]
    refine Tot.imp s_157 ?_
    rintro v s3 ⟨rfl, r2, rfl, hr2⟩
    refine ⟨r2, rfl, fun h10 => ex ?_ (Or.inr nl), fun h10 => on (by omega) (Or.inr ?_)⟩
    · by_cases e : b4.toInt = b2.toInt
      · rw [e] at hl
        rw [hl] at nl
        cases nl
      · omega
    · rcases hr2 with hr2 | hr2
      · exact hr2.2
      · exact absurd hr2.1 h10
