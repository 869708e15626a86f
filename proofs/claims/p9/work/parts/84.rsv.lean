/-! ===== resolved TYPES ===== -/
/-- a row of (node, length): each resolved where the one ahead ends -/
def rcs (Q : Nat → Nat → Nat → Prop) : Nat → List (Nat × Nat) → Nat → Prop
  | q, [], e => q = e
  | q, c :: cs, e => Q c.1 q c.2 ∧ rcs Q (q + c.2) cs e
/-- node y is resolved at p, l elements; V: what an element may be -/
def rsv (s : yS) (V : Nat → Prop) : Nat → Nat → Nat → Nat → Prop
  | 0, _, _, _ => False
  | k + 1, y, p, l => (s.2.1 231 y).toInt = (p : Int) ∧ (s.2.1 232 y).toInt = (l : Int) ∧ 1 ≤ l ∧ l ≤ 60 ∧ V (tyE s p) ∧ ∃ cs : List (Nat × Nat), chn s (s.2.1 224 y).toInt (cs.map (·.1)) ∧ cs.length = tyE s p % 8 ∧ rcs (rsv s V k) (p + 1) cs (p + l)
theorem rcs_app {Q : Nat → Nat → Nat → Prop} : ∀ {cs ds : List (Nat × Nat)} {q m e : Nat}, rcs Q q cs m → rcs Q m ds e → rcs Q q (cs ++ ds) e
  | [], ds, q, m, e, h, h' => by
    have : q = m := h
    subst this
    exact h'
  | c :: cs, ds, q, m, e, h, h' => ⟨h.1, rcs_app h.2 h'⟩
theorem rcs_mo {Q Q' : Nat → Nat → Nat → Prop} : ∀ {cs : List (Nat × Nat)} {q e : Nat}, (∀ c ∈ cs, ∀ p, q ≤ p → p + c.2 ≤ e → Q c.1 p c.2 → Q' c.1 p c.2) → q ≤ e → rcs Q q cs e → rcs Q' q cs e ∧ q ≤ e
  | [], q, e, _, hq, h => ⟨h, hq⟩
  | c :: cs, q, e, hm, hq, h => by
    have hle : q + c.2 ≤ e := by
      clear hm hq
      have : ∀ (cs : List (Nat × Nat)) (q e : Nat), rcs Q q cs e → q ≤ e := by
        intro cs
        induction cs with
        | nil => intro q e h; exact Nat.le_of_eq h
        | cons c cs ih => intro q e h; have := ih _ _ h.2; omega
      exact this cs _ _ h.2
    have := rcs_mo (fun d hd p h1 h2 => hm d (List.mem_cons_of_mem _ hd) p (by omega) h2) hle h.2
    exact ⟨⟨hm c List.mem_cons_self q (Nat.le_refl _) hle h.1, this.1⟩, hq⟩
/-- a resolved TYPE is one TYPE -/
theorem rsv_F {s : yS} {V : Nat → Prop} : ∀ {k y p l : Nat}, rsv s V k y p l → isF 1 (seg s p l)
  | 0, _, _, _, h => absurd h id
  | k + 1, y, p, l, h => by
    obtain ⟨-, -, h3, -, -, cs, -, h6, h7⟩ := h
    have key : ∀ (cs : List (Nat × Nat)) (q e : Nat), rcs (rsv s V k) q cs e → q ≤ e ∧ isF cs.length (seg s q (e - q)) := by
      intro cs
      induction cs with
      | nil =>
        intro q e h
        have : q = e := h
        subst this
        exact ⟨Nat.le_refl _, by rw [Nat.sub_self]; rfl⟩
      | cons c cs ih =>
        intro q e h
        have h1 := rsv_F h.1
        obtain ⟨h2, h3⟩ := ih _ _ h.2
        refine ⟨by omega, ?_⟩
        rw [show e - q = c.2 + (e - (q + c.2)) by omega, seg_add, List.length_cons, Nat.add_comm]
        exact isF_app h1 h3
    obtain ⟨k1, k2⟩ := key cs _ _ h7
    obtain ⟨l', rfl⟩ : ∃ l', l = l' + 1 := ⟨l - 1, by omega⟩
    refine ⟨by decide, ?_⟩
    rw [show p + (l' + 1) - (p + 1) = l' by omega, h6] at k2
    rw [show 1 - 1 + tyE s p % 8 = tyE s p % 8 by omega]
    exact k2
theorem rsv_V {s : yS} {V : Nat → Prop} : ∀ {k y p l : Nat}, rsv s V k y p l → ∀ x ∈ seg s p l, V x
  | 0, _, _, _, h => absurd h id
  | k + 1, y, p, l, h => by
    obtain ⟨-, -, h3, -, h5, cs, -, -, h7⟩ := h
    have key : ∀ (cs : List (Nat × Nat)) (q e : Nat), rcs (rsv s V k) q cs e → q ≤ e ∧ ∀ x ∈ seg s q (e - q), V x := by
      intro cs
      induction cs with
      | nil =>
        intro q e h
        have : q = e := h
        subst this
        exact ⟨Nat.le_refl _, by rw [Nat.sub_self]; intro x hx; cases hx⟩
      | cons c cs ih =>
        intro q e h
        have h1 := rsv_V h.1
        obtain ⟨h2, h3⟩ := ih _ _ h.2
        refine ⟨by omega, ?_⟩
        rw [show e - q = c.2 + (e - (q + c.2)) by omega, seg_add]
        intro x hx
        rcases List.mem_append.mp hx with hx | hx
        · exact h1 x hx
        · exact h3 x hx
    obtain ⟨k1, k2⟩ := key cs _ _ h7
    obtain ⟨l', rfl⟩ : ∃ l', l = l' + 1 := ⟨l - 1, by omega⟩
    intro x hx
    rcases List.mem_cons.mp hx with hx | hx
    · rw [hx]; exact h5
    · rw [show p + (l' + 1) - (p + 1) = l' by omega] at k2
      exact k2 x hx
/-- resolved trees stay where their nodes and their elements do -/
theorem rsv_eq {b n : Nat} {s s' : yS} {V : Nat → Prop} : ∀ {k k' hi y p l : Nat}, isY b n s k' hi y → (∀ x, y ≤ x → x < hi → s'.2.1 231 x = s.2.1 231 x ∧ s'.2.1 232 x = s.2.1 232 x ∧ s'.2.1 224 x = s.2.1 224 x ∧ (y < x → s'.2.1 225 x = s.2.1 225 x)) → (∀ i, p ≤ i → i < p + l → s'.2.1 264 i = s.2.1 264 i) → rsv s V k y p l → rsv s' V k y p l
  | 0, _, _, _, _, _, _, _, _, h => h
  | k + 1, 0, _, _, _, _, hY, _, _, _ => absurd hY id
  | k + 1, k' + 1, hi, y, p, l, hY, hn, ht, h => by
    obtain ⟨h1, h2, h3, h4, h5, cs, h6, h7, h8⟩ := h
    obtain ⟨g1, -, -, -, -, -, ds, g6, g7, g8, g9, g10⟩ := hY
    have hy := hn y (Nat.le_refl _) g1
    have et : tyE s' p = tyE s p := by unfold tyE; rw [ht p (Nat.le_refl _) (by omega)]
    -- both rows of children are the same
    have hcd : ∀ (as bs : List Nat) (x : Int), chn s x as → chn s x bs → as = bs := by
      intro as
      induction as with
      | nil =>
        intro bs x ha hb
        cases bs with
        | nil => rfl
        | cons b bs =>
          have h1 : x = -1 := ha
          have h2 : x = (b : Int) := hb.1
          omega
      | cons a as ih =>
        intro bs x ha hb
        cases bs with
        | nil =>
          have h1 : x = -1 := hb
          have h2 : x = (a : Int) := ha.1
          omega
        | cons b bs =>
          have h1 : x = (a : Int) := ha.1
          have h2 : x = (b : Int) := hb.1
          have e : a = b := by omega
          subst e
          rw [ih bs _ ha.2 hb.2]
    have e1 : cs.map (·.1) = ds := hcd _ _ _ h6 g8
    have hmem : ∀ c ∈ cs, y < c.1 ∧ ∃ h, h ≤ hi ∧ isY b n s k' h c.1 := by
      intro c hc
      obtain ⟨w1, h, w2, -, w3⟩ := g10 c.1 (by rw [← e1]; exact List.mem_map_of_mem hc)
      exact ⟨w1, h, w2, w3⟩
    refine ⟨by rw [hy.1]; exact h1, by rw [hy.2.1]; exact h2, h3, h4, by rw [et]; exact h5, cs, ?_, by rw [et]; exact h7, (rcs_mo (fun c hc q q1 q2 hq => ?_) (by omega) h8).1⟩
    · rw [hy.2.2.1]
      refine chn_eq _ _ (fun c hc => ?_) h6
      obtain ⟨c', hc', rfl⟩ := List.mem_map.mp hc
      obtain ⟨w1, h, w2, w3⟩ := hmem c' hc'
      have := isY_lt w3
      exact (hn c'.1 (by omega) (by omega)).2.2.2 w1
    · obtain ⟨w1, h, w2, w3⟩ := hmem c hc
      refine rsv_eq w3 (fun x x1 x2 => ?_) (fun i i1 i2 => ht i (by omega) (by omega)) hq
      have := hn x (by omega) (by omega)
      exact ⟨this.1, this.2.1, this.2.2.1, fun _ => this.2.2.2 (by omega)⟩
