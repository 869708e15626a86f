/-! ===== takeType, takeTypes ===== -/
def ndB : List Nat := 223 :: ndA
/-- what the reader leaves as it is: all but its own numbers, and nodes ahead of N -/
def Fr (N : Nat) (s s' : yS) : Prop := (∀ k, k ∉ [7, 8, 26, 27, 28] → s'.1 k = s.1 k) ∧ (∀ p i, ¬ (N ≤ i ∧ i / 4002 = N / 4002 ∧ p ∈ ndB) → s'.2.1 p i = s.2.1 p i) ∧ s'.2.2 = s.2.2
section FR
variable {N N' : Nat} {s s' s'' : yS}
theorem Fr_rf : Fr N s s := ⟨fun _ _ => rfl, fun _ _ _ => rfl, rfl⟩
theorem Fr_tr (h : Fr N s s') (h' : Fr N' s' s'') (hN : N ≤ N' ∧ N' / 4002 = N / 4002) : Fr N s s'' := ⟨fun k hk => (h'.1 k hk).trans (h.1 k hk), fun p i hp => (h'.2.1 p i (fun q => hp ⟨by omega, by omega, q.2.2⟩)).trans (h.2.1 p i hp), h'.2.2.trans h.2.2⟩
theorem Fr_sf {k : Nat} {v : Int32} (h : Fr N s s') (hk : k ∈ [7, 8, 26, 27, 28]) : Fr N s (sf s' k v) := ⟨fun j hj => by
  rw [sf_1, if_neg (fun e => hj (by rw [e]; exact hk))]
  exact h.1 j hj, h.2.1, h.2.2⟩
theorem Fr_sa {p i : Nat} {v : Int32} (h : Fr N s s') (hp : p ∈ ndB) (hi : N ≤ i ∧ i / 4002 = N / 4002) : Fr N s (sa s' p i v) := ⟨h.1, fun q j hq => by
  rw [sa_2, if_neg (fun e => hq ⟨by omega, by rw [e.2]; exact hi.2, by rw [e.1]; exact hp⟩)]
  exact h.2.1 q j hq, h.2.2⟩
theorem Fr_nw {a : Int32} (h : Nw s s' a N) : Fr N s s' := ⟨fun k hk => h.2.1 k (fun e => hk (by rw [e]; decide)), fun p i hp => h.2.2.1 p i (fun q => hp ⟨by omega, by rw [q.1], List.mem_cons_of_mem _ q.2⟩), h.2.2.2.1⟩
theorem Fr_row {p : Nat} (h : Fr N s s') (hp : p ∉ ndB) : s'.2.1 p = s.2.1 p := by
  funext i
  exact h.2.1 p i (fun q => hp q.2.2)
theorem Fr_Lx {b n W : Nat} (h : Fr N s s') (hL : Lx b n W s) : Lx b n W s' := Lx_eq hL (Fr_row h (by decide)) (Fr_row h (by decide)) (Fr_row h (by decide))
end FR
/-- behind a fault: one node, one token further -/
theorem s_173f {d b n W : Nat} {s : yS} (hL : Lx b n W s) (hR : Rd b n s) (hf : ¬ (s.1 8).toInt = 0) (hD : 0 ≤ (s.1 27).toInt ∧ (s.1 27).toInt ≤ 50) (hN : 0 ≤ (s.1 26).toInt ∧ (s.1 26).toInt < 12000) (hA : (s.1 7).toInt ≤ 12900) : Tot (d + 3) 173 [.ref 213] s (fun v s' => v = some (.int (s.1 26)) ∧ Fr (s.1 26).toInt.toNat s s' ∧ s'.1 8 = s.1 8 ∧ (s'.1 7).toInt = (s.1 7).toInt + 1 ∧ (s'.1 26).toInt = (s.1 26).toInt + 1 ∧ s'.1 27 = s.1 27 ∧ s'.1 28 = s.1 28) := by
  refine t_173 ?_
  unfold w_173_0 w_173_30
  refine Tot.imp (s_166 hL hR) ?_
  rintro v s1 ⟨rfl, x, rfl, hx⟩
  refine ⟨x, rfl, ?_⟩
  refine Tot.imp (s_172 hL hR (by omega)) ?_
  rintro v s2 ⟨rfl, y, z, hy, rfl, hz, -⟩
  have ez := hz hf
  subst ez
  rw [sf_id]
  refine ⟨rfl, ?_⟩
  refine Tot.imp (s_171 (s := sf s1 27 y) ⟨hN.1, by have := hN.2; show (s1.1 26).toInt < 12006; omega⟩) ?_
  rintro v s3 ⟨rfl, hw⟩
  have f3 : Fr (s1.1 26).toInt.toNat s1 s3 := Fr_tr (Fr_sf Fr_rf (by decide)) (Fr_nw hw) ⟨Nat.le_refl _, rfl⟩
  have e7 : s3.1 7 = s1.1 7 := hw.2.1 7 (by decide)
  have e8 : s3.1 8 = s1.1 8 := hw.2.1 8 (by decide)
  have e27 : s3.1 27 = y := hw.2.1 27 (by decide)
  have e28 : s3.1 28 = s1.1 28 := hw.2.1 28 (by decide)
  have e26 : (s3.1 26).toInt = (s1.1 26).toInt + 1 := hw.1
  refine ⟨_, rfl, by rw [e7]; unfold Rd at hR; omega, ?_⟩
  rintro x9 hx9 s4 rfl
  have f4 : Fr (s1.1 26).toInt.toNat s1 (sf s3 7 x9) := Fr_sf f3 (by decide)
  have r4 : Rd b n (sf s3 7 x9) := by
    unfold Rd at hR ⊢
    simp only [sf_1]
    simp only [if_true, if_neg (show ¬ (8 : Nat) = 7 by decide), e8, hx9, e7]
    exact ⟨hR.1, hR.2.1, by omega, by omega, fun q => absurd q hf⟩
  refine Tot.imp (s_164 (Fr_Lx f4 hL) r4) ?_
  rintro v s5 ⟨rfl, x13, rfl, h13⟩
  have h8 : ((sf s3 7 x9).1 8) = s1.1 8 := e8
  refine ⟨x13, rfl, fun h0 => ?_, fun h0 => ?_⟩
  · have h27 : (sf s3 7 x9).1 27 = y := e27
    rw [h27]
    refine ⟨by omega, ?_⟩
    rintro x1 hx1 s6 rfl
    have h1 : x1 = s1.1 27 := Int32.toInt_inj.mp (by omega)
    subst h1
    exact ⟨rfl, Fr_sf f4 (by decide), e8, by show x9.toInt = _; rw [hx9, e7], e26, rfl, e28⟩
  · rcases h13 with h13 | h13
    · rw [h8] at h13
      exact absurd h13.2.1 hf
    · exact absurd h13.1 h0
theorem chn_app {s : yS} {l k : Nat} {v : Int32} (hv : v.toInt = (k : Int)) (hk : (s.2.1 225 k).toInt = -1) (hlk : l < k) : ∀ (cs : List Nat) (x : Int), chn s x cs → cs.Pairwise (· < ·) → cs.getLast? = some l → chn (sa s 225 l v) x (cs ++ [k])
  | [], x, _, _, hl => by cases hl
  | [c], x, h, _, hl => by
    cases hl
    refine ⟨h.1, ?_, ?_⟩
    · rw [sa_2, if_pos ⟨rfl, rfl⟩]
      exact hv
    · rw [sa_2, if_neg (fun e => by omega)]
      exact hk
  | c :: c2 :: cs, x, h, hp, hl => by
    have hl2 : (c2 :: cs).getLast? = some l := by rw [← hl]; rfl
    have hlm : l ∈ c2 :: cs := List.mem_of_getLast? hl2
    have hcl : c < l := (List.pairwise_cons.mp hp).1 l hlm
    refine ⟨h.1, ?_⟩
    rw [sa_2, if_neg (fun e => by omega)]
    exact chn_app hv hk hlk (c2 :: cs) _ h.2 (List.pairwise_cons.mp hp).2 hl2
theorem isY_sf {b n : Nat} {s : yS} {k hi x j : Nat} {v : Int32} (h : isY b n s k hi x) : isY b n (sf s j v) k hi x := isY_eq (s := s) (s' := sf s j v) rfl rfl k hi x (fun _ _ _ => ⟨rfl, rfl, rfl, fun _ => rfl, fun _ => rfl⟩) h
/-- takeType's end, begun without a fault -/
def YQ (b n m : Nat) (s : yS) (v : Option Value) (s' : yS) : Prop :=
  v = some (.int (s.1 26)) ∧ Rd b n s' ∧ Fr (s.1 26).toInt.toNat s s' ∧ s'.1 27 = s.1 27 ∧ (s.1 26).toInt + 1 ≤ (s'.1 26).toInt ∧
  ((s'.1 8).toInt = 0 → (3 * (s'.1 26).toInt - 2 * (s'.1 7).toInt ≤ 3 * (s.1 26).toInt - 2 * (s.1 7).toInt + 1 ∧ 4 * (cm b s' : Int) - (s'.1 7).toInt ≤ 4 * (cm b s : Int) - (s.1 7).toInt) ∧ (s.1 7).toInt < (s'.1 7).toInt ∧ (s'.2.1 225 (s.1 26).toInt.toNat).toInt = -1 ∧ nmAt s ∧ isY b n s' (m + 1) (s'.1 26).toInt.toNat (s.1 26).toInt.toNat) ∧
  (¬ (s'.1 8).toInt = 0 → (s'.1 26).toInt ≤ 4002 * (b : Int) + 2700 + 3 * m ∧ (s'.1 7).toInt ≤ 4002 * (b : Int) + n + 3 + 3 * m)
def YP (b n W m d : Nat) : Prop := ∀ s : yS, Lx b n W s → Rd b n s → (s.1 8).toInt = 0 → (s.1 27).toInt = 10 - (m : Int) → m ≤ 10 → 4002 * (b : Int) ≤ (s.1 26).toInt → 3 * ((s.1 26).toInt - 4002 * (b : Int)) - 2 * ((s.1 7).toInt - 4002 * (b : Int)) ≤ 60 → Tot d 173 [.ref 213] s (YQ b n m s)
/-- takeTypes' end, begun at a [ without a fault -/
def ZQ (b n m : Nat) (s : yS) (v : Option Value) (s' : yS) : Prop :=
  v = some (.int (s.1 26)) ∧ Rd b n s' ∧ Fr (s.1 26).toInt.toNat s s' ∧ s'.1 27 = s.1 27 ∧ (s.1 26).toInt + 1 ≤ (s'.1 26).toInt ∧
  ((s'.1 8).toInt = 0 → (3 * (s'.1 26).toInt - 2 * (s'.1 7).toInt ≤ 3 * (s.1 26).toInt - 2 * (s.1 7).toInt - 3 ∧ 4 * (cm b s' : Int) - (s'.1 7).toInt ≤ 4 * (cm b s : Int) - (s.1 7).toInt) ∧ (s.1 7).toInt < (s'.1 7).toInt ∧ ∃ cs : List Nat, 1 ≤ cs.length ∧ cs.length ≤ 6 ∧ (s'.1 28).toInt = (cs.length : Int) ∧ chn s' (s.1 26).toInt cs ∧ cs.Pairwise (· < ·) ∧ ∀ c ∈ cs, (s.1 26).toInt.toNat ≤ c ∧ ∃ h, h ≤ (s'.1 26).toInt.toNat ∧ (∀ c' ∈ cs, c < c' → h ≤ c') ∧ isY b n s' (m + 1) h c) ∧
  (¬ (s'.1 8).toInt = 0 → (s'.1 26).toInt ≤ 4002 * (b : Int) + 2701 + 3 * m ∧ (s'.1 7).toInt ≤ 4002 * (b : Int) + n + 4 + 3 * m)
theorem Rd_at {b n : Nat} {s : yS} {x : Int32} (hR : Rd b n s) (h : x.toInt = (s.1 7).toInt + 1) (hn : (s.1 7).toInt < 4002 * (b : Int) + n) (hb : b < 3) (hn2 : n ≤ 4000) : Rd b n (sf s 7 x) := by
  unfold Rd at *
  simp only [sf_1]
  simp only [if_true, if_neg (show ¬ (8 : Nat) = 7 by decide), h]
  exact ⟨hR.1, hR.2.1, by omega, by omega, fun q => ⟨by have := hR.2.2.2.2 q; omega, by omega⟩⟩
theorem Rd_ft {b n : Nat} {s : yS} {x : Int32} (hR : Rd b n s) (h1 : 1 ≤ x.toInt) (h2 : x.toInt ≤ 64015) : Rd b n (sf s 8 x) := by
  unfold Rd at *
  simp only [sf_1]
  simp only [if_true, if_neg (show ¬ (7 : Nat) = 8 by decide)]
  exact ⟨by omega, by omega, hR.2.2.1, hR.2.2.2.1, fun q => by omega⟩
/-- the row of TYPES so far -/
def ZI (b n m : Nat) (s0 : yS) (a1 a2 a3 : Int32) (s : yS) : Prop :=
  a1 = s0.1 26 ∧ 1 ≤ a3.toInt ∧ a3.toInt ≤ 7 ∧ Rd b n s ∧ Fr (s0.1 26).toInt.toNat s0 s ∧ s.1 27 = s0.1 27 ∧ (s0.1 26).toInt + 1 ≤ (s.1 26).toInt ∧ (s0.1 26).toInt ≤ a2.toInt ∧ a2.toInt < (s.1 26).toInt ∧
  ((s.1 8).toInt = 0 → (3 * (s.1 26).toInt - 2 * (s.1 7).toInt ≤ 3 * (s0.1 26).toInt - 2 * (s0.1 7).toInt - 1 ∧ 4 * (cm b s : Int) - (s.1 7).toInt ≤ 4 * (cm b s0 : Int) - (s0.1 7).toInt) ∧ (s0.1 7).toInt < (s.1 7).toInt ∧ ∃ cs : List Nat, cs.length ≤ 6 ∧ a3.toInt = (cs.length : Int) ∧ chn s (s0.1 26).toInt cs ∧ cs.Pairwise (· < ·) ∧ cs.getLast? = some a2.toInt.toNat ∧ ∀ c ∈ cs, (s0.1 26).toInt.toNat ≤ c ∧ ∃ h, h ≤ (s.1 26).toInt.toNat ∧ (∀ c' ∈ cs, c < c' → h ≤ c') ∧ (h ≤ a2.toInt.toNat ∨ c = a2.toInt.toNat) ∧ isY b n s (m + 1) h c) ∧
  (¬ (s.1 8).toInt = 0 → (s.1 26).toInt ≤ 4002 * (b : Int) + 2701 + 3 * m ∧ (s.1 7).toInt ≤ 4002 * (b : Int) + n + 4 + 3 * m)
theorem s_174 {b n W m d : Nat} {s : yS} (hY : YP b n W m (d + 3)) (hL : Lx b n W s) (hR : Rd b n s) (hg : sgAt s 91) (hD : (s.1 27).toInt = 10 - (m : Int)) (hm : m ≤ 10) (hN : 4002 * (b : Int) ≤ (s.1 26).toInt) (hd : 3 * ((s.1 26).toInt - 4002 * (b : Int)) - 2 * ((s.1 7).toInt - 4002 * (b : Int)) ≤ 61) : Tot (d + 4) 174 [.ref 213] s (ZQ b n m s) := by
  have hb := hL.1
  have hn := hL.2.1
  refine t_174 ?_
  unfold w_174_0
  refine Tot.imp (Tot.mono (by omega) (s_167 (d := 0) (c := 91) hL hR)) ?_
  rintro v s1 ⟨rfl, h1⟩
  refine ⟨rfl, ?_⟩
  obtain ⟨x, hx, hlt, rfl⟩ : ∃ x : Int32, x.toInt = (s.1 7).toInt + 1 ∧ (s.1 7).toInt < 4002 * (b : Int) + n ∧ s1 = sf s 7 x := by
    rcases h1 with h1 | h1
    · exact h1.2
    · exact absurd (show sgAt s ((91 : Int32).toInt) from hg) h1.1
  have r1 := Rd_at hR hx hlt hb hn
  have f1 : Fr (s.1 26).toInt.toNat s (sf s 7 x) := Fr_sf Fr_rf (by decide)
  refine Tot.imp (hY (sf s 7 x) (Fr_Lx f1 hL) r1 hg.1 hD hm hN (by show 3 * ((s.1 26).toInt - _) - 2 * (x.toInt - _) ≤ 60; omega)) ?_
  rintro v s3 ⟨rfl, y1, y2, y3, y4, y5, y6⟩
  refine ⟨_, rfl, ?_⟩
  have q7 : (sf s 7 x).1 7 = x := rfl
  have q26 : (sf s 7 x).1 26 = s.1 26 := rfl
  have qc : cm b (sf s 7 x) = cm b s := rfl
  rw [q26] at y2 y4 y5 ⊢
  rw [q7, qc] at y5
  have f3 : Fr (s.1 26).toInt.toNat s s3 := Fr_tr f1 y2 ⟨Nat.le_refl _, rfl⟩
  unfold wl_174_10
  refine ⟨ZI b n m s, fun a1 a2 a3 s' => if (s'.1 8).toInt = 0 then (14000 - (s'.1 7).toInt).toNat + 1 else 0, ?_, ?_⟩
  · refine ⟨rfl, by decide, by decide, y1, f3, y3, y4, Int.le_refl _, by omega, fun q => ?_, fun q => by have := y6 q; omega⟩
    obtain ⟨z1, z2, z3, -, z4⟩ := y5 q
    refine ⟨by omega, by omega, [(s.1 26).toInt.toNat], (show 1 ≤ 6 by decide), (show (1 : Int32).toInt = 1 by decide), ⟨by omega, z3⟩, List.pairwise_singleton _ _, rfl, fun c hc => ?_⟩
    rw [List.mem_singleton.mp hc]
    exact ⟨Nat.le_refl _, _, Nat.le_refl _, fun c' hc' hl => by rw [List.mem_singleton.mp hc'] at hl; omega, Or.inr rfl, z4⟩
  · rintro a1 a2 a3 t ⟨rfl, i1, i2, i3, i4, i5, i6, i7, i8, i9, i10⟩
    have hLt : Lx b n W t := Fr_Lx i4 hL
    have hN0 : (0 : Int) ≤ (s.1 26).toInt := by omega
    have bound : (t.1 8).toInt = 0 → (t.1 26).toInt ≤ 4002 * (b : Int) + 2690 := by
      intro q
      have h1 := (i9 q).1
      have h2 := i3.2.2.2.2 q
      have h3 := hR.2.2.2.2 hg.1
      omega
    have hTN : (t.1 26).toInt ≤ 4002 * (b : Int) + 2740 := by
      by_cases q : (t.1 8).toInt = 0
      · have := bound q; omega
      · have := i10 q; omega
    -- one TYPE more, to a state in whose wake it stands
    have more : ∀ (u s' : yS) (x5 : Int32), (u.1 26) = t.1 26 → u.1 27 = s.1 27 → Fr (s.1 26).toInt.toNat s u → u.2 = t.2 → (t.1 8).toInt = 0 → (t.1 7).toInt < (u.1 7).toInt → Rd b n s' → Fr (t.1 26).toInt.toNat u s' → s'.1 27 = u.1 27 → (t.1 26).toInt + 1 ≤ (s'.1 26).toInt → x5.toInt = a3.toInt + 1 →
        ((s'.1 8).toInt = 0 → a3.toInt ≤ 5 ∧ (3 * (s'.1 26).toInt - 2 * (s'.1 7).toInt ≤ 3 * (t.1 26).toInt - 2 * (t.1 7).toInt ∧ 4 * (cm b s' : Int) - (s'.1 7).toInt ≤ 4 * (cm b t : Int) - (t.1 7).toInt) ∧ (t.1 7).toInt < (s'.1 7).toInt ∧ (s'.2.1 225 (t.1 26).toInt.toNat).toInt = -1 ∧ isY b n s' (m + 1) (s'.1 26).toInt.toNat (t.1 26).toInt.toNat) → (¬ (s'.1 8).toInt = 0 → (s'.1 26).toInt ≤ 4002 * (b : Int) + 2701 + 3 * m ∧ (s'.1 7).toInt ≤ 4002 * (b : Int) + n + 4 + 3 * m) → a3.toInt ≤ 6 →
        ZI b n m s (s.1 26) (t.1 26) x5 (sa s' 225 a2.toInt.toNat (t.1 26)) := by
      intro u s' x5 u26 u27 uF u2 t8 u7 r' f' e27 e26 h5 g1 g2 g3
      have fS : Fr (s.1 26).toInt.toNat s (sa s' 225 a2.toInt.toNat (t.1 26)) := Fr_sa (Fr_tr uF f' (by omega)) (by decide) (by omega)
      refine ⟨rfl, by omega, by omega, r', fS, e27.trans u27, by show _ ≤ (s'.1 26).toInt; omega, by omega, by show _ < (s'.1 26).toInt; omega, fun q => ?_, g2⟩
      obtain ⟨k1, k2, k3, k4, k5⟩ := g1 q
      obtain ⟨z1, z2, cs, z3, z4, z5, z6, z7, z8⟩ := i9 t8
      have row : ∀ p y, y < (t.1 26).toInt.toNat → s'.2.1 p y = t.2.1 p y := by
        intro p y hy
        rw [f'.2.1 p y (fun q => by omega), u2]
      have clt : ∀ c ∈ cs, c < (t.1 26).toInt.toNat := by
        intro c hc
        obtain ⟨-, h, w1, -, -, w3⟩ := z8 c hc
        have := isY_lt w3
        omega
      refine ⟨by show (3 * (s'.1 26).toInt - 2 * (s'.1 7).toInt ≤ _) ∧ (4 * (cm b s' : Int) - (s'.1 7).toInt ≤ _); omega, by show _ < (s'.1 7).toInt; omega, cs ++ [(t.1 26).toInt.toNat], by rw [List.length_append]; show cs.length + 1 ≤ 6; omega, by rw [List.length_append, h5, z4]; rfl, ?_, ?_, by simp, ?_⟩
      · exact chn_app (by omega) k4 (by omega) cs _ (chn_eq cs _ (fun c hc => row 225 c (clt c hc)) z5) z6 z7
      · rw [List.pairwise_append]
        exact ⟨z6, List.pairwise_singleton _ _, fun a ha b' hb' => by rw [List.mem_singleton.mp hb']; exact clt a ha⟩
      · intro c hc
        have t5 : (sa s' 225 a2.toInt.toNat (t.1 26)).2.1 215 = s.2.1 215 := Fr_row fS (by decide)
        have t7 : (sa s' 225 a2.toInt.toNat (t.1 26)).2.1 217 = s.2.1 217 := Fr_row fS (by decide)
        have t5' : t.2.1 215 = s.2.1 215 := Fr_row i4 (by decide)
        have t7' : t.2.1 217 = s.2.1 217 := Fr_row i4 (by decide)
        rcases List.mem_append.mp hc with hc | hc
        · obtain ⟨w0, h, w1, wc, w2, w3⟩ := z8 c hc
          refine ⟨w0, h, by show h ≤ (s'.1 26).toInt.toNat; omega, fun c' hc' hl => ?_, Or.inl w1, ?_⟩
          · rcases List.mem_append.mp hc' with hc' | hc'
            · exact wc c' hc' hl
            · rw [List.mem_singleton.mp hc']
              exact w1
          refine isY_eq (t5.trans t5'.symm) (t7.trans t7'.symm) (m + 1) h c (fun y hy hy2 => ?_) w3
          have hy3 : y < (t.1 26).toInt.toNat := by omega
          refine ⟨?_, ?_, ?_, fun _ => ?_, fun hcy => ?_⟩
          · rw [sa_2, if_neg (fun e => by omega)]; exact row _ _ hy3
          · rw [sa_2, if_neg (fun e => by omega)]; exact row _ _ hy3
          · rw [sa_2, if_neg (fun e => by omega)]; exact row _ _ hy3
          · rw [sa_2, if_neg (fun e => by omega)]; exact row _ _ hy3
          · rw [sa_2, if_neg (fun e => by omega)]; exact row _ _ hy3
        · rw [List.mem_singleton.mp hc]
          refine ⟨by omega, _, Nat.le_refl _, fun c' hc' hl => ?_, Or.inr rfl, ?_⟩
          · rcases List.mem_append.mp hc' with hc' | hc'
            · have := clt c' hc'
              omega
            · rw [List.mem_singleton.mp hc'] at hl
              omega
          show isY b n (sa s' 225 a2.toInt.toNat (t.1 26)) (m + 1) (s'.1 26).toInt.toNat (t.1 26).toInt.toNat
          refine isY_eq (s := s') (by funext j; rw [sa_2, if_neg (fun e => by omega)]) (by funext j; rw [sa_2, if_neg (fun e => by omega)]) (m + 1) _ _ (fun y hy hy2 => ?_) k5
          refine ⟨?_, ?_, ?_, fun _ => ?_, fun hcy => ?_⟩ <;> rw [sa_2, if_neg (fun e => by omega)]
    have r13 := i3.2.2.2.1
    have mu : ∀ s' : yS, (t.1 8).toInt = 0 → ((s'.1 8).toInt = 0 → (t.1 7).toInt < (s'.1 7).toInt) → (if (s'.1 8).toInt = 0 then (14000 - (s'.1 7).toInt).toNat + 1 else 0) < (if (t.1 8).toInt = 0 then (14000 - (t.1 7).toInt).toNat + 1 else 0) := by
      intro s' h1 h2
      rw [if_pos h1]
      split
      · rename_i h3
        have := h2 h3
        omega
      · omega
    unfold w_174_10 w_174_25
    refine Tot.imp (Tot.mono (by omega) (s_168 (d := 0) (c := 44) hLt i3)) ?_
    rintro v s1 ⟨y, rfl, hy⟩
    refine ⟨y, rfl, fun h0 => ?_, fun h0 => ?_⟩
    · have e1 : s1 = t := by
        rcases hy with hy | hy
        · omega
        · exact hy.2.2
      subst e1
      refine Tot.imp (Tot.mono (by omega) (s_167 (d := 0) (c := 93) hLt i3)) ?_
      rintro v s4 ⟨rfl, h4⟩
      refine ⟨rfl, ?_⟩
      rintro s6 rfl
      rcases h4 with ⟨-, x', hx', hlt', rfl⟩ | ⟨-, g1, g2⟩
      · have r4 := Rd_at i3 hx' hlt' hb hn
        refine ⟨rfl, r4, Fr_sf (Fr_sf i4 (by decide)) (by decide), i5, i6, fun q => ?_, fun q => ?_⟩
        · obtain ⟨z1, z2, cs, z3, z4, z5, z6, z7, z8⟩ := i9 q
          refine ⟨by show (3 * (s1.1 26).toInt - 2 * x'.toInt ≤ _) ∧ (4 * (cm b s1 : Int) - x'.toInt ≤ _); omega, by show _ < x'.toInt; omega, cs, by omega, z3, z4, chn_eq (s := s1) cs _ (fun _ _ => rfl) z5, z6, fun c hc => ?_⟩
          obtain ⟨w0, h, w1, wc, -, w3⟩ := z8 c hc
          exact ⟨w0, h, w1, wc, isY_sf (isY_sf w3)⟩
        · have := i10 q
          exact ⟨this.1, by show x'.toInt ≤ _; omega⟩
      · by_cases q : (s1.1 8).toInt = 0
        · obtain ⟨x', a1, a2', rfl⟩ := g2 q
          have h3 := i3.2.2.2.2 q
          have h4 := bound q
          exact ⟨rfl, (Rd_ft i3 a1 a2' : Rd b n (sf s1 8 x')), Fr_sf (Fr_sf i4 (by decide)) (by decide), i5, i6, fun q2 => absurd (show x'.toInt = 0 from q2) (by omega), fun _ => ⟨by show (s1.1 26).toInt ≤ _; omega, by show (s1.1 7).toInt ≤ _; omega⟩⟩
        · have e4 := g1 q
          subst e4
          exact ⟨rfl, i3, Fr_sf i4 (by decide), i5, i6, fun q2 => absurd q2 q, i10⟩
    · obtain ⟨hsg, x', hx', hlt', rfl⟩ : sgAt t ((44 : Int32).toInt) ∧ ∃ x : Int32, x.toInt = (t.1 7).toInt + 1 ∧ (t.1 7).toInt < 4002 * (b : Int) + n ∧ s1 = sf t 7 x := by
        rcases hy with hy | hy
        · exact hy.2
        · exact absurd hy.1 h0
      have t8 := hsg.1
      have ru := Rd_at i3 hx' hlt' hb hn
      have uF : Fr (s.1 26).toInt.toNat s (sf t 7 x') := Fr_sf i4 (by decide)
      have hLu := Fr_Lx uF hL
      have z1 := (i9 t8).1
      have zlen : a3.toInt ≤ 6 := by
        obtain ⟨-, -, cs, z3, z4, -⟩ := i9 t8
        omega
      have hA0 := hR.2.2.2.2 hg.1
      have main : (a3.toInt = 6 → ¬ nmAt (sf t 7 x')) → Tot (d + 3) 173 [.ref 213] (sf t 7 x') (fun v2 s1 => ∃ x3, v2 = some (.int x3) ∧ ((0 ≤ a2.toInt ∧ a2.toInt < 12006) ∧ (∀ s4, s4 = sa s1 225 a2.toInt.toNat x3 → (-2147483648 ≤ a3.toInt + 1 ∧ a3.toInt + 1 ≤ 2147483647) ∧ (∀ x5 : Int32, x5.toInt = a3.toInt + 1 → (ZI b n m s (s.1 26) x3 x5 s4 ∧ (if (s4.1 8).toInt = 0 then (14000 - (s4.1 7).toInt).toNat + 1 else 0) < (if (t.1 8).toInt = 0 then (14000 - (t.1 7).toInt).toNat + 1 else 0)))))) := by
        intro h6
        refine Tot.imp (hY (sf t 7 x') hLu ru t8 (by show (t.1 27).toInt = _; rw [i5]; exact hD) hm (by show _ ≤ (t.1 26).toInt; omega) (by show 3 * ((t.1 26).toInt - _) - 2 * (x'.toInt - _) ≤ 60; omega)) ?_
        rintro v s3 ⟨rfl, y1, y2, y3, y4, y5, y6⟩
        refine ⟨_, rfl, by omega, ?_⟩
        rintro s4 rfl
        refine ⟨by omega, fun x5 hx5 => ⟨more (sf t 7 x') s3 x5 rfl i5 uF rfl t8 (by show _ < x'.toInt; omega) y1 y2 y3 y4 hx5 (fun q => ?_) (fun q => by have := y6 q; omega) zlen, mu _ t8 (fun q => ?_)⟩⟩
        · obtain ⟨k1, k2, k3, k4, k5⟩ := y5 q
          have k1' : (3 * (s3.1 26).toInt - 2 * (s3.1 7).toInt ≤ 3 * (t.1 26).toInt - 2 * x'.toInt + 1 ∧ 4 * (cm b s3 : Int) - (s3.1 7).toInt ≤ 4 * (cm b t : Int) - x'.toInt) := k1
          have k2' : x'.toInt < (s3.1 7).toInt := k2
          exact ⟨by
            by_cases h : a3.toInt = 6
            · exact absurd k4 (h6 h)
            · omega, by omega, by omega, k3, k5⟩
        · have k2' : x'.toInt < (s3.1 7).toInt := (y5 q).2.1
          show _ < (s3.1 7).toInt
          omega
      refine ⟨fun h6 => main (fun q => absurd q h6), fun h6 => ?_⟩
      refine Tot.imp (Tot.mono (by omega) (s_166 (d := 0) hLu ru)) ?_
      rintro v s7 ⟨rfl, x9, rfl, h9⟩
      refine ⟨x9, rfl, fun h0 => main (fun _ => ?_), fun h0 => ?_⟩
      · rcases h9 with h9 | h9
        · omega
        · exact h9.2
      · refine Tot.imp (Tot.mono (by omega) (s_163 (d := 0) (w := 5) hLu (by decide) (fun q => ru.2.2.2.2 q))) ?_
        rintro v s10 ⟨rfl, -, g2⟩
        obtain ⟨z, w1, w2, rfl⟩ := g2 t8
        refine ⟨rfl, ?_⟩
        have rv := Rd_ft ru w1 w2
        have vF : Fr (s.1 26).toInt.toNat s (sf (sf t 7 x') 8 z) := Fr_sf uF (by decide)
        have hTA : (t.1 7).toInt ≤ 12100 := by omega
        refine Tot.imp (Tot.mono (by omega) (s_173f (d := 0) (Fr_Lx vF hL) rv (by show ¬ z.toInt = 0; omega) (by show 0 ≤ (t.1 27).toInt ∧ (t.1 27).toInt ≤ 50; rw [i5]; omega) (by show 0 ≤ (t.1 26).toInt ∧ (t.1 26).toInt < 12000; omega) (by show x'.toInt ≤ 12900; omega))) ?_
        rintro v s3 ⟨rfl, y1, y2, y3, y4, y5, -⟩
        refine ⟨_, rfl, by omega, ?_⟩
        rintro s4 rfl
        have y3' : (s3.1 7).toInt = x'.toInt + 1 := y3
        have y4' : (s3.1 26).toInt = (t.1 26).toInt + 1 := y4
        have y2' : s3.1 8 = z := y2
        have b1 := bound t8
        have r3 : Rd b n s3 := by
          refine ⟨by rw [y2']; omega, by rw [y2']; omega, by omega, by omega, fun q => ?_⟩
          rw [y2'] at q
          omega
        refine ⟨by omega, fun x5 hx5 => ⟨more (sf (sf t 7 x') 8 z) s3 x5 rfl i5 vF rfl t8 (by show _ < x'.toInt; omega) r3 y1 y5 (by omega) hx5 (fun q => ?_) (fun q => by omega) zlen, mu _ t8 (fun q => ?_)⟩⟩
        · rw [y2'] at q
          omega
        · have q' : (s3.1 8).toInt = 0 := q
          rw [y2'] at q'
          omega
/-- takeType -/
theorem s_173s {b n W m : Nat} (ih : ∀ m', m = m' + 1 → YP b n W m' (2 * m' + 5)) : YP b n W m (2 * m + 5) := by
    intro s hL hR hf hD hm hN hd
    have hb := hL.1
    have hn := hL.2.1
    have hA := hR.2.2.2.2 hf
    have hNb : (s.1 26).toInt ≤ 4002 * (b : Int) + 2690 := by omega
    refine t_173 ?_
    unfold w_173_0 w_173_30
    refine Tot.imp (Tot.mono (by omega) (s_166 (d := 0) hL hR)) ?_
    rintro v s1 ⟨rfl, x, rfl, hx⟩
    refine ⟨x, rfl, ?_⟩
    refine Tot.imp (Tot.mono (by omega) (s_172 (d := 0) hL hR (by omega))) ?_
    rintro v s2 ⟨rfl, y, z, hy, rfl, -, hz⟩
    refine ⟨rfl, ?_⟩
    have hz := hz hf
    refine Tot.imp (Tot.mono (by omega) (s_171 (d := 0) (s := sf (sf s1 8 z) 27 y) (by show 0 ≤ (s1.1 26).toInt ∧ (s1.1 26).toInt < 12006; omega))) ?_
    rintro v s3 ⟨rfl, hw⟩
    have f3 : Fr (s1.1 26).toInt.toNat s1 s3 := Fr_tr (Fr_sf (Fr_sf Fr_rf (by decide)) (by decide)) (Fr_nw hw) ⟨Nat.le_refl _, rfl⟩
    have e7 : s3.1 7 = s1.1 7 := hw.2.1 7 (by decide)
    have e8 : s3.1 8 = z := hw.2.1 8 (by decide)
    have e27 : s3.1 27 = y := hw.2.1 27 (by decide)
    have e26 : (s3.1 26).toInt = (s1.1 26).toInt + 1 := hw.1
    have c3 : cm b s3 = cm b s1 := (cm_nw0 (b := b) (s := sf (sf s1 8 z) 27 y) hw hN (by decide)).trans rfl
    obtain ⟨-, -, -, -, w21, w22, w24, w25, w26, -⟩ := hw
    have w21 : s3.2.1 221 (s1.1 26).toInt.toNat = 0 := w21
    have w22 : s3.2.1 222 (s1.1 26).toInt.toNat = s1.1 7 := w22
    have w24 : s3.2.1 224 (s1.1 26).toInt.toNat = -1 := w24
    have w25 : s3.2.1 225 (s1.1 26).toInt.toNat = -1 := w25
    have w26 : s3.2.1 226 (s1.1 26).toInt.toNat = 0 := w26
    refine ⟨_, rfl, by rw [e7]; omega, ?_⟩
    rintro x9 hx9 s4 rfl
    have f4 : Fr (s1.1 26).toInt.toNat s1 (sf s3 7 x9) := Fr_sf f3 (by decide)
    have hz8 : (z.toInt = 0 ∧ nmAt s1 ∧ 1 ≤ m) ∨ (1 ≤ z.toInt ∧ z.toInt ≤ 64015) := by
      rcases hz with hz | hz
      · left
        refine ⟨hz.2.2, ?_, by omega⟩
        rcases hx with hx | hx
        · exact hx.2
        · exact absurd hx.1 hz.1
      · exact Or.inr hz.2
    have lt4 : z.toInt = 0 → (s1.1 7).toInt < 4002 * (b : Int) + n := by
      intro q
      rcases hz8 with h | h
      · exact Lx_in hL hR hf (by rw [h.2.1.2.1]; decide)
      · omega
    have r4 : Rd b n (sf s3 7 x9) := by
      refine ⟨?_, ?_, by show 0 ≤ x9.toInt; rw [hx9, e7]; omega, by show x9.toInt ≤ 13000; rw [hx9, e7]; omega, fun q => ?_⟩
      · show 0 ≤ (s3.1 8).toInt
        rw [e8]
        omega
      · show (s3.1 8).toInt ≤ 70000
        rw [e8]
        omega
      · have q : (s3.1 8).toInt = 0 := q
        rw [e8] at q
        have := lt4 q
        show _ ≤ x9.toInt ∧ x9.toInt ≤ _
        rw [hx9, e7]
        omega
    -- the end: deep as before
    have fin : ∀ s' : yS, s'.1 27 = y → Rd b n s' → Fr (s1.1 26).toInt.toNat s1 s' → (s1.1 26).toInt + 1 ≤ (s'.1 26).toInt → ((s'.1 8).toInt = 0 → (3 * (s'.1 26).toInt - 2 * (s'.1 7).toInt ≤ 3 * (s1.1 26).toInt - 2 * (s1.1 7).toInt + 1 ∧ 4 * (cm b s' : Int) - (s'.1 7).toInt ≤ 4 * (cm b s1 : Int) - (s1.1 7).toInt) ∧ (s1.1 7).toInt < (s'.1 7).toInt ∧ (s'.2.1 225 (s1.1 26).toInt.toNat).toInt = -1 ∧ nmAt s1 ∧ isY b n s' (m + 1) (s'.1 26).toInt.toNat (s1.1 26).toInt.toNat) → (¬ (s'.1 8).toInt = 0 → (s'.1 26).toInt ≤ 4002 * (b : Int) + 2700 + 3 * m ∧ (s'.1 7).toInt ≤ 4002 * (b : Int) + n + 3 + 3 * m) →
        (-2147483648 ≤ (s'.1 27).toInt - 1 ∧ (s'.1 27).toInt - 1 ≤ 2147483647) ∧ (∀ x1 : Int32, x1.toInt = (s'.1 27).toInt - 1 → ∀ s2, s2 = sf s' 27 x1 → YQ b n m s1 (some (.int (s1.1 26))) s2) := by
      intro s' h27 h1 h2 h3 h4 h5
      rw [h27]
      refine ⟨by omega, ?_⟩
      rintro x1 hx1 s2 rfl
      refine ⟨rfl, h1, Fr_sf h2 (by decide), Int32.toInt_inj.mp (show x1.toInt = _ by omega), h3, fun q => ?_, h5⟩
      obtain ⟨k1, k2, k3, k4, k5⟩ := h4 q
      exact ⟨k1, k2, k3, k4, isY_sf k5⟩
    refine Tot.imp (Tot.mono (by omega) (s_164 (d := 0) (c := 91) (Fr_Lx f4 hL) r4)) ?_
    rintro v s5 ⟨rfl, x13, rfl, h13⟩
    have r8 : ((sf s3 7 x9).1 8) = z := e8
    have r22 : ∀ u : yS, Fr ((s1.1 26).toInt.toNat + 1) (sf s3 7 x9) u → u.2.1 222 (s1.1 26).toInt.toNat = s1.1 7 := by
      intro u hu
      rw [hu.2.1 222 _ (fun q => by omega)]
      exact w22
    have tk : z.toInt = 0 → ∀ u : yS, Fr (s1.1 26).toInt.toNat s1 u → u.2.1 222 (s1.1 26).toInt.toNat = s1.1 7 → 4002 * (b : Int) ≤ (u.2.1 222 (s1.1 26).toInt.toNat).toInt ∧ (u.2.1 222 (s1.1 26).toInt.toNat).toInt < 4002 * (b : Int) + n ∧ (u.2.1 215 (u.2.1 222 (s1.1 26).toInt.toNat).toInt.toNat).toInt = 1 ∧ 5 < (u.2.1 217 (u.2.1 222 (s1.1 26).toInt.toNat).toInt.toNat).toInt := by
      intro q u hu h22
      rcases hz8 with h | h
      · rw [h22, Fr_row hu (by decide : (215 : Nat) ∉ ndB), Fr_row hu (by decide : (217 : Nat) ∉ ndB)]
        exact ⟨by omega, lt4 q, h.2.1.2.1, h.2.1.2.2⟩
      · omega
    refine ⟨x13, rfl, fun h0 => ?_, fun h0 => ?_⟩
    · refine fin (sf s3 7 x9) e27 r4 f4 (by show _ ≤ (s3.1 26).toInt; omega) (fun q => ?_) (fun q => ?_)
      · rw [r8] at q
        have h : z.toInt = 0 ∧ nmAt s1 ∧ 1 ≤ m := by
          rcases hz8 with h | h
          · exact h
          · omega
        have tt := tk q (sf s3 7 x9) f4 w22
        refine ⟨by show (3 * (s3.1 26).toInt - 2 * x9.toInt ≤ _) ∧ (4 * (cm b s3 : Int) - x9.toInt ≤ _); rw [hx9, e7]; omega, by show _ < x9.toInt; rw [hx9, e7]; omega, by show (s3.2.1 225 _).toInt = -1; rw [w25]; decide, h.2.1, by show _ < (s3.1 26).toInt.toNat; omega, by show (s3.2.1 221 _).toInt = 0; rw [w21]; decide, tt.1, tt.2.1, tt.2.2.1, tt.2.2.2, [], by show (s3.2.1 226 _).toInt = 0; rw [w26]; decide, by decide, by show (s3.2.1 224 _).toInt = -1; rw [w24]; decide, List.Pairwise.nil, fun c hc => by cases hc⟩
      · exact ⟨by show (s3.1 26).toInt ≤ _; omega, by show x9.toInt ≤ _; rw [hx9, e7]; omega⟩
    · have h13 := h13.resolve_right (fun q => h0 q.1)
      have q8 : z.toInt = 0 := by
        have := h13.2.1
        rw [r8] at this
        exact this
      have hh : z.toInt = 0 ∧ nmAt s1 ∧ 1 ≤ m := by
        rcases hz8 with h | h
        · exact h
        · omega
      obtain ⟨m', rfl⟩ : ∃ m', m = m' + 1 := ⟨m - 1, by omega⟩
      have q26 : (sf s3 7 x9).1 26 = s3.1 26 := rfl
      have q7 : (sf s3 7 x9).1 7 = x9 := rfl
      have l4 := lt4 q8
      refine Tot.imp (Tot.mono (by omega) (s_174 (d := 2 * m' + 2) (ih m' rfl) (Fr_Lx f4 hL) r4 h13.2 (by show (s3.1 27).toInt = _; rw [e27]; omega) (by omega) (by rw [q26]; omega) (by rw [q26, q7, hx9, e7]; omega))) ?_
      rintro v s14 ⟨rfl, y1, y2, y3, y4, y5, y6⟩
      have qc : cm b (sf s3 7 x9) = cm b s3 := rfl
      rw [q26] at y2 y4 y5
      rw [q7, qc] at y5
      refine ⟨_, rfl, by show 0 ≤ (s1.1 26).toInt ∧ (s1.1 26).toInt < 12006; omega, ?_⟩
      rintro s17 rfl
      refine ⟨by show 0 ≤ (s1.1 26).toInt ∧ (s1.1 26).toInt < 12006; omega, ?_⟩
      rintro s18 rfl
      have en : ((sf (sf s1 8 z) 27 y).1 26).toInt.toNat = (s1.1 26).toInt.toNat := rfl
      rw [en]
      have f14 : Fr (s1.1 26).toInt.toNat s1 s14 := Fr_tr f4 y2 (by omega)
      have f18 := Fr_sa (v := (sa s14 224 (s1.1 26).toInt.toNat ((sf s3 7 x9).1 26)).1 28) (Fr_sa (v := (sf s3 7 x9).1 26) f14 (by decide : (224 : Nat) ∈ ndB) ⟨Nat.le_refl _, rfl⟩) (by decide : (226 : Nat) ∈ ndB) ⟨Nat.le_refl _, rfl⟩
      have b14 : s14.2.1 225 (s1.1 26).toInt.toNat = -1 := by
        rw [y2.2.1 225 _ (fun q => by omega)]
        exact w25
      have c14 : s14.2.1 222 (s1.1 26).toInt.toNat = s1.1 7 := by
        rw [y2.2.1 222 _ (fun q => by omega)]
        exact w22
      refine fin _ (y3.trans e27) y1 f18 (by show _ ≤ (s14.1 26).toInt; omega) (fun q => ?_) (fun q => by have := y6 q; exact ⟨by show (s14.1 26).toInt ≤ _; omega, by show (s14.1 7).toInt ≤ _; omega⟩)
      obtain ⟨k1, k2, cs, k3, k4, k5, k6, k7, k8⟩ := y5 q
      have tt := tk q8 _ f18 (by rw [sa_2, if_neg (fun e => by omega), sa_2, if_neg (fun e => by omega)]; exact c14)
      refine ⟨by show (3 * (s14.1 26).toInt - 2 * (s14.1 7).toInt ≤ _) ∧ (4 * (cm b s14 : Int) - (s14.1 7).toInt ≤ _); rw [hx9, e7] at k1; omega, by show _ < (s14.1 7).toInt; rw [hx9, e7] at k2; omega, ?_, hh.2.1, by show _ < (s14.1 26).toInt.toNat; omega, ?_, tt.1, tt.2.1, tt.2.2.1, tt.2.2.2, cs, ?_, k4, ?_, k7, fun c hc => ?_⟩
      · rw [sa_2, if_neg (fun e => by omega), sa_2, if_neg (fun e => by omega), b14]
        decide
      · rw [sa_2, if_neg (fun e => by omega), sa_2, if_neg (fun e => by omega), y2.2.1 221 _ (fun q => by omega)]
        show (s3.2.1 221 _).toInt = 0
        rw [w21]
        decide
      · rw [sa_2, if_pos ⟨rfl, rfl⟩]
        exact k5
      · rw [sa_2, if_neg (fun e => by omega), sa_2, if_pos ⟨rfl, rfl⟩]
        refine chn_eq (s := s14) cs _ (fun c hc => ?_) k6
        rw [sa_2, if_neg (fun e => by omega), sa_2, if_neg (fun e => by omega)]
      · obtain ⟨w0, h, w1, wc, w3⟩ := k8 c hc
        refine ⟨by omega, h, w1, wc, ?_⟩
        refine isY_eq (s := s14) (by funext j; rw [sa_2, if_neg (fun e => by omega), sa_2, if_neg (fun e => by omega)]) (by funext j; rw [sa_2, if_neg (fun e => by omega), sa_2, if_neg (fun e => by omega)]) (m' + 1) h c (fun u hu hu2 => ?_) w3
        refine ⟨?_, ?_, ?_, fun _ => ?_, fun _ => ?_⟩ <;> rw [sa_2, if_neg (fun e => by omega), sa_2, if_neg (fun e => by omega)]
theorem s_173 {b n W : Nat} (m : Nat) : YP b n W m (2 * m + 5) := by
  induction m with
  | zero => exact s_173s (fun m' h => by omega)
  | succ m ih => exact s_173s (fun m' h => by
      have e : m' = m := by omega
      rw [e]
      exact ih)
