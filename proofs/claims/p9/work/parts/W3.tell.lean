/-! ===== the class: tell ===== -/
/-- words of a TYPE, from a on -/
def WDz (P : Nat) (s : zS) (a : Int) (l : List Int) : Prop := ∀ (i : Nat) (c : Int), l[i]? = some c → KI (s.2 (P + 18)) (a + i) = c
/-- their tokens -/
def TTz (P : Nat) (s : zS) (a : Int) (l : List Int) : Prop := ∀ (i : Nat) (t : Int), l[i]? = some t → KI (s.2 (P + 20)) (a - 18738 + i) = t
/-- what tell may write -/
def TLf (P : Nat) (a : Int) (s s' : zS) : Prop := (∀ b q, ¬ (b = P ∧ (q = 10 ∨ q = 14)) → s'.1 b q = s.1 b q) ∧ (∀ r, ¬ r = P + 18 → ¬ r = P + 20 → s'.2 r = s.2 r) ∧ (∀ i : Nat, (i : Int) < a → s'.2 (P + 18) i = s.2 (P + 18) i) ∧ ∀ i : Nat, (i : Int) < a - 18738 → s'.2 (P + 20) i = s.2 (P + 20) i
/-- what the text and the tables say -/
def TLh (K L W ar : Int → Int) (n : Int) (P : Nat) (s : zS) (hf tp TN : List Int) : Prop := (KI (s.2 (P + 4)) = K ∧ KI (s.2 (P + 6)) = L ∧ KI (s.2 (P + 10)) = W ∧ KI (s.2 (P + 22)) = ar) ∧ SMz P s K W n ∧ TNz P s K n TN ∧ SCz P s hf tp
/-- what tell leaves -/
def TLq (P : Nat) (k t e : Int) (R : Int × List (Int × Int)) (s s' : zS) (r : Int32) : Prop := TLf P k s s' ∧ (s'.1 P 14).toInt = R.1 ∧ (R.1 = 0 → (s'.1 P 10).toInt = k + (R.2.length : Int) ∧ WDz P s' k (R.2.map Prod.fst) ∧ TTz P s' k (R.2.map Prod.snd) ∧ r.toInt = e ∧ (R.2.length : Int) ≤ e - t)
section WTL
variable {d P : Nat} {s s' s'' : zS} {a b : Int} {K L W ar : Int → Int} {n : Int} {hf tp TN l l' : List Int}
theorem TLf_rf : TLf P a s s := ⟨fun _ _ _ => rfl, fun _ _ _ => rfl, fun _ _ => rfl, fun _ _ => rfl⟩
theorem TLf_tr (h : TLf P a s s') (g : TLf P b s' s'') (hb : a ≤ b) : TLf P a s s'' := ⟨fun x q w => (g.1 x q w).trans (h.1 x q w), fun r w w' => (g.2.1 r w w').trans (h.2.1 r w w'), fun i w => (g.2.2.1 i (by omega)).trans (h.2.2.1 i w), fun i w => (g.2.2.2 i (by omega)).trans (h.2.2.2 i w)⟩
theorem TLf_ft {x : Int32} : TLf P a s (zf s P 14 x) := ⟨fun b q w => by rw [zf_1, if_neg (fun e => w ⟨e.1, Or.inr e.2⟩)], fun _ _ _ => rfl, fun _ _ => rfl, fun _ _ => rfl⟩
theorem TLf_kp {x : Int32} : TLf P a s (zf s P 10 x) := ⟨fun b q w => by rw [zf_1, if_neg (fun e => w ⟨e.1, Or.inl e.2⟩)], fun _ _ _ => rfl, fun _ _ => rfl, fun _ _ => rfl⟩
theorem TLf_w {x v : Int32} (h : a ≤ x.toInt) : TLf P a s (zt s (P + 18) x v) := by
  unfold zt
  split
  · refine ⟨fun _ _ _ => rfl, fun r w _ => ?_, fun i hi => ?_, fun i _ => ?_⟩
    · funext j
      rw [zr_2, if_neg (fun e => w e.1)]
    · rw [zr_2, if_neg (fun e => by omega)]
    · rw [zr_2, if_neg (fun e => by omega)]
  · exact TLf_rf
theorem TLf_k {x v : Int32} (h : a - 18738 ≤ x.toInt) : TLf P a s (zt s (P + 20) x v) := by
  unfold zt
  split
  · refine ⟨fun _ _ _ => rfl, fun r _ w => ?_, fun i hi => ?_, fun i _ => ?_⟩
    · funext j
      rw [zr_2, if_neg (fun e => w e.1)]
    · rw [zr_2, if_neg (fun e => by omega)]
    · rw [zr_2, if_neg (fun e => by omega)]
  · exact TLf_rf
theorem TLf_K {r : Nat} (h : TLf P a s s') (h1 : ¬ r = 18) (h2 : ¬ r = 20) : s'.2 (P + r) = s.2 (P + r) := h.2.1 _ (by omega) (by omega)
theorem TLh_f (hP : P = 3 ∨ P = 39) (h : TLf P a s s') (g : TLh K L W ar n P s hf tp TN) : TLh K L W ar n P s' hf tp TN := by
  obtain ⟨⟨g1, g2, g3, g4⟩, g5, g6, g7⟩ := g
  have e75 : ∀ q, s'.1 75 q = s.1 75 q := fun q => h.1 75 q (fun w => by omega)
  have r : ∀ r : Nat, ¬ r = 18 → ¬ r = 20 → s'.2 (P + r) = s.2 (P + r) := fun r h1 h2 => TLf_K h h1 h2
  refine ⟨⟨by rw [r 4 (by decide) (by decide)]; exact g1, by rw [r 6 (by decide) (by decide)]; exact g2, by rw [r 10 (by decide) (by decide)]; exact g3, by rw [r 22 (by decide) (by decide)]; exact g4⟩, ?_, ?_, ?_⟩
  · unfold SMz okT eqT zpl zln at *
    rw [r 2 (by decide) (by decide), r 6 (by decide) (by decide), r 8 (by decide) (by decide)]
    exact g5
  · unfold TNz tyc zsz at *
    rw [r 24 (by decide) (by decide), h.1 (P + 24) 2 (fun w => by omega)]
    exact g6
  · unfold SCz sgc slc at *
    rw [r 22 (by decide) (by decide), r 28 (by decide) (by decide), r 30 (by decide) (by decide), e75, e75, e75]
    exact g7
theorem LT_f {lo hi : Int} (h : TLf P a s s') (g : LT K L P lo hi s) : LT K L P lo hi s' := fun q h1 h2 h3 => by
  rw [TLf_K h (by decide) (by decide)]
  exact g q h1 h2 h3
theorem KI_lo {f g : Nat → Int32} {q : Int} (h : ∀ i : Nat, (i : Int) < a → g i = f i) (hq : q < a) : KI g q = KI f q := by
  unfold KI
  by_cases h0 : 0 ≤ q
  · rw [if_pos h0, if_pos h0, h q.toNat (by omega)]
  · rw [if_neg h0, if_neg h0]
theorem WDz_f (h : TLf P b s s') (g : WDz P s a l) (hl : a + (l.length : Int) ≤ b) : WDz P s' a l := fun i c hc => by
  have := (List.getElem?_eq_some_iff.mp hc).1
  rw [KI_lo h.2.2.1 (by omega)]
  exact g i c hc
theorem TTz_f (h : TLf P b s s') (g : TTz P s a l) (hl : a + (l.length : Int) ≤ b) : TTz P s' a l := fun i c hc => by
  have := (List.getElem?_eq_some_iff.mp hc).1
  rw [KI_lo h.2.2.2 (by omega)]
  exact g i c hc
theorem WDz_app (g : WDz P s a l) (h : WDz P s (a + (l.length : Int)) l') : WDz P s a (l ++ l') := fun i c hc => by
  rcases Nat.lt_or_ge i l.length with w | w
  · rw [List.getElem?_append_left w] at hc
    exact g i c hc
  · rw [List.getElem?_append_right w] at hc
    have := h _ c hc
    rw [show a + (l.length : Int) + ((i - l.length : Nat) : Int) = a + (i : Int) by omega] at this
    exact this
theorem TTz_app (g : TTz P s a l) (h : TTz P s (a + (l.length : Int)) l') : TTz P s a (l ++ l') := fun i c hc => by
  rcases Nat.lt_or_ge i l.length with w | w
  · rw [List.getElem?_append_left w] at hc
    exact g i c hc
  · rw [List.getElem?_append_right w] at hc
    have := h _ c hc
    rw [show a + (l.length : Int) - 18738 + ((i - l.length : Nat) : Int) = a - 18738 + (i : Int) by omega] at this
    exact this
/-- where pieces of a list that was passed stand, in their order -/
theorem uS_mo {nx : Int → Int} {t : Int} {N : Nat} (h : ∀ i, i < N → uS nx t i < nx (uS nx t i)) : ∀ i j, i ≤ j → j ≤ N → uS nx t i + 2 * ((j : Int) - (i : Int)) ≤ uS nx t j := by
  intro i j hij
  induction hij with
  | refl => exact fun _ => by omega
  | @step j hij ih =>
    intro hc
    have h1 := ih (by omega)
    have h2 := h j (by omega)
    show uS nx t i + 2 * (((j + 1 : Nat) : Int) - (i : Int)) ≤ nx (uS nx t j) + 1
    omega
theorem tlS_s {f : Int → Int × List (Int × Int)} {nx : Int → Int} {k : Nat} {u : Int} : tlS f nx (k + 1) u = if (f u).1 = 0 then (if (tlS f nx k (nx u + 1)).1 = 0 then (0, (f u).2 ++ (tlS f nx k (nx u + 1)).2) else ((tlS f nx k (nx u + 1)).1, [])) else ((f u).1, []) := by rw [tlS]
set_option maxHeartbeats 4000000 in
theorem zs_132 (hP : P = 3 ∨ P = 39) (hX : TXp K L n) : ∀ (m : Nat), m ≤ 10 → ∀ (a1 a2 : Int32) (t k : Int) (s : zS), a1.toInt = t → a2.toInt = 11 - (m : Int) → 0 ≤ t → (p_t K L m false (0, t)).1 = 0 → (p_t K L m false (0, t)).2 ≤ n → (s.1 P 14).toInt = 0 → (s.1 P 10).toInt = k → 18738 ≤ k → k + ((p_t K L m false (0, t)).2 - t) ≤ 82870 → LT K L P t (p_t K L m false (0, t)).2 s → TLh K L W ar n P s hf tp TN → Zt (12 + m) (wd P 132) 132 [.ref 83, .int a1, .int a2] s (fun v s' => ∃ r : Int32, v = some (.int r) ∧ TLq P k t (p_t K L m false (0, t)).2 (tlT K L (cdOf W hf tp TN) ar m t) s s' r) := by
  intro m
  induction m with
  | zero => exact fun _ a1 a2 t k s _ _ _ h => absurd (show (e_f K L true (0, t)).1 = 0 from h) (fun w => ef_t w)
  | succ m ih =>
    intro hm a1 a2 t k s e1 e2 t0 hp he h14 h10 hk0 hk1 hLT hH
    obtain ⟨u1, u2, u3⟩ := pt_u (m := m) (by omega) hp
    have hfw := (pt_fw (m + 1) _ _ hp).2
    have hH' := hH
    obtain ⟨⟨hK, hL, hW, hA⟩, hSM, hTN, hSC⟩ := hH'
    have hn4 := hX.1
    have hLt := hX.2.2 t t0 (by dsimp only at hfw; omega)
    generalize hE : (p_t K L (m + 1) false (0, t)).2 = E at *
    generalize hcd : cdOf W hf tp TN = cd at *
    have hfw' : t < E := hfw
    have hN : (K (t + 1) = 91 ∧ ntc K L t = NT K L (t + 1) ∧ uS (nxT K L) (t + 2) (ntc K L t) = E) ∨ (¬ K (t + 1) = 91 ∧ ntc K L t = 0 ∧ t + 1 = E) := by
      unfold ntc
      by_cases hc : K (t + 1) = 91
      · rw [if_pos hc]
        refine Or.inl ⟨hc, rfl, ?_⟩
        have := (u2 hc).2.2
        rw [← hE, this]
      · rw [if_neg hc]
        refine Or.inr ⟨hc, rfl, ?_⟩
        rw [← hE, u3 hc]
    generalize hNN : ntc K L t = N at *
    have hN7 : N ≤ 7 := by
      rcases hN with ⟨c1, c2, c3⟩ | ⟨-, c2, -⟩
      · have := (u2 c1).1
        omega
      · omega
    have hps : ∀ i, i < N → (p_t K L m false (0, uS (nxT K L) (t + 2) i)).1 = 0 ∧ (p_t K L m false (0, uS (nxT K L) (t + 2) i)).2 = nxT K L (uS (nxT K L) (t + 2) i) ∧ uS (nxT K L) (t + 2) i < nxT K L (uS (nxT K L) (t + 2) i) := fun i hi => by
      rcases hN with ⟨c1, c2, c3⟩ | ⟨-, c2, -⟩
      · have h1 := (u2 c1).2.1 i (by omega)
        have h2 := (pt_g m (by omega) false _ h1).2.2
        have h3 := (pt_fw m _ _ h1).2
        rw [h2]
        exact ⟨h1, rfl, h3⟩
      · omega
    have hmo := uS_mo (nx := nxT K L) (t := t + 2) (N := N) (fun i hi => (hps i hi).2.2)
    have hEN : ∀ i, i < N → nxT K L (uS (nxT K L) (t + 2) i) + 1 ≤ E := fun i hi => by
      rcases hN with ⟨c1, c2, c3⟩ | ⟨-, c2, -⟩
      · have := hmo (i + 1) N (by omega) (Nat.le_refl _)
        rw [c3] at this
        have e : uS (nxT K L) (t + 2) (i + 1) = nxT K L (uS (nxT K L) (t + 2) i) + 1 := rfl
        rw [e] at this
        omega
      · omega
    -- the fault of the word itself
    have hR : tlT K L cd ar (m + 1) t = if cd t < 0 then (2 + 16 * L t, []) else if ¬ (N : Int) = ar (cd t) then (4 + 16 * L t, []) else
      if (tlS (tlT K L cd ar m) (nxT K L) N (t + 2)).1 = 0 then (if 60 < (tlS (tlT K L cd ar m) (nxT K L) N (t + 2)).2.length + 1 then (9 + 16 * L t, []) else (0, (cd t, t) :: (tlS (tlT K L cd ar m) (nxT K L) N (t + 2)).2)) else ((tlS (tlT K L cd ar m) (nxT K L) N (t + 2)).1, []) := by
      rw [tlT, hNN]
    generalize hRR : tlT K L cd ar (m + 1) t = R at *
    generalize hTT : tlS (tlT K L cd ar m) (nxT K L) N (t + 2) = T at *
    rw [show 12 + (m + 1) = 3 + (m + 1) + 9 by omega]
    refine zc_132 (d := 3 + (m + 1)) hP ?_
    unfold v_132_0
    refine Zt.imp (Zt.mo (d := 11) (by omega) (zs_133 (d := 0) hP hW hSM hTN hSC (by rw [e1]; exact ⟨t0, by omega, u1⟩))) ?_
    rintro v1 s2 ⟨hs2, x3, rfl, hx3⟩
    rw [e1, hcd] at hx3
    subst hs2
    refine ⟨x3, rfl, fun x4 hx4 => ?_⟩
    have ex4 := hx4 (by omega)
    -- behind the look at the word: φ its fault
    have body : ∀ (u : zS) (b4 b5 : Int32) (φ : Int), TLf P k s2 u → u.1 P 10 = s2.1 P 10 → (u.1 P 14).toInt = φ → ((b4.toInt = 0 ∧ ¬ K (t + 1) = 91) ∨ (b4.toInt = 1 ∧ K (t + 1) = 91)) → b5.toInt = (N : Int) → (¬ φ = 0 → R.1 = φ) → (φ = 0 → R = if T.1 = 0 then (if 60 < T.2.length + 1 then (9 + 16 * L t, []) else (0, (cd t, t) :: T.2)) else (T.1, [])) → v_132_49 (fun j => Zt (3 + (m + 1) + 8) (wd P j) j) P a1 a2 x3 b4 b5 u (fun v s' => ∃ r : Int32, v = some (.int r) ∧ TLq P k t E R s2 s' r) := by
      intro u b4 b5 φ hf hu10 hu14 hb4 hb5 hφ1 hφ2
      unfold v_132_49
      refine ⟨Or.inr (by rw [hu10]; omega), ?_⟩
      intro s1 hs1 x2 hx2 s3 hs3 x5 hx5
      rw [hu10] at hs1 hx2 hx5 ⊢
      have ex2 := hx2 (by omega)
      have ex5 := hx5 (by omega)
      refine ⟨by omega, fun s5 hs5 x6 hx6 => ?_⟩
      have ex6 := hx6 (by omega)
      have l18 : lim (P + 18) = 82938 := by rcases hP with rfl | rfl <;> decide +kernel
      have l20 : lim (P + 20) = 64200 := by rcases hP with rfl | rfl <;> decide +kernel
      have f1 : TLf P k u s1 := by rw [hs1]; exact TLf_w (by omega)
      have f3 : TLf P k s1 s3 := by rw [hs3]; exact TLf_k (by omega)
      have f5 : TLf P k s3 s5 := by rw [hs5]; exact TLf_kp
      have f15 : TLf P k s2 s5 := TLf_tr (TLf_tr hf f1 (Int.le_refl _)) (TLf_tr f3 f5 (Int.le_refl _)) (Int.le_refl _)
      have w14 : (s5.1 P 14).toInt = φ := by
        rw [hs5, zf_1, if_neg (fun e => absurd e.2 (by decide)), hs3]
        unfold zt
        split
        · rw [zr_1, hs1]
          unfold zt
          split
          · rw [zr_1]; exact hu14
          · exact hu14
        · rw [hs1]
          unfold zt
          split
          · rw [zr_1]; exact hu14
          · exact hu14
      have w10 : (s5.1 P 10).toInt = k + 1 := by
        rw [hs5, zf_1, if_pos ⟨rfl, rfl⟩]
        omega
      have w18 : KI (s5.2 (P + 18)) k = cd t := by
        rw [KI_p (by omega), hs5, zf_2, hs3, zt_in (by rw [l20]; omega), zr_2, if_neg (fun e => by omega), hs1, zt_in (by rw [l18]; omega), zr_2, if_pos ⟨rfl, by omega⟩]
        exact hx3
      have w20 : KI (s5.2 (P + 20)) (k - 18738) = t := by
        rw [KI_p (by omega), hs5, zf_2, hs3, zt_in (by rw [l20]; omega), zr_2, if_pos ⟨rfl, by omega⟩]
        exact e1
      clear hs1 hs3 hs5 f1 f3 f5
      refine ⟨fun c1 c2 c3 c4 c5 c6 c7 c8 w => c1 = a1 ∧ c2 = a2 ∧ c4 = b4 ∧ c5 = b5 ∧ c6 = s2.1 P 10 ∧ TLf P k s2 w ∧ ∃ i : Nat, c8.toInt = (i : Int) ∧ i ≤ N ∧ (¬ (w.1 P 14).toInt = 0 → R.1 = (w.1 P 14).toInt) ∧ ((w.1 P 14).toInt = 0 → φ = 0 ∧ c7.toInt = uS (nxT K L) (t + 2) i - 1 ∧ ∃ l : List (Int × Int), (w.1 P 10).toInt = k + 1 + (l.length : Int) ∧ WDz P w k (cd t :: l.map Prod.fst) ∧ TTz P w k (t :: l.map Prod.snd) ∧ (l.length : Int) + 2 ≤ uS (nxT K L) (t + 2) i - t ∧ T = if (tlS (tlT K L cd ar m) (nxT K L) (N - i) (uS (nxT K L) (t + 2) i)).1 = 0 then (0, l ++ (tlS (tlT K L cd ar m) (nxT K L) (N - i) (uS (nxT K L) (t + 2) i)).2) else ((tlS (tlT K L cd ar m) (nxT K L) (N - i) (uS (nxT K L) (t + 2) i)).1, [])), fun _ _ _ _ _ _ _ c8 _ => (7 - c8.toInt).toNat, ⟨rfl, rfl, rfl, rfl, rfl, f15, 0, by decide, Nat.zero_le _, fun h => ?_, fun h => ?_⟩, ?_⟩
      · rw [w14] at h ⊢
        exact hφ1 h
      · rw [w14] at h
        refine ⟨h, ?_, [], ?_, ?_, ?_, ?_, ?_⟩
        · show x6.toInt = t + 2 - 1
          omega
        · rw [w10]
          show k + 1 = k + 1 + ((0 : Nat) : Int)
          omega
        · intro i c hc
          cases i with
          | zero =>
            have ec : cd t = c := by simpa using hc
            rw [← ec, show k + ((0 : Nat) : Int) = k by omega]
            exact w18
          | succ i => cases hc
        · intro i c hc
          cases i with
          | zero =>
            have ec : t = c := by simpa using hc
            rw [← ec, show k - 18738 + ((0 : Nat) : Int) = k - 18738 by omega]
            exact w20
          | succ i => cases hc
        · show ((0 : Nat) : Int) + 2 ≤ t + 2 - t
          omega
        · show T = if (tlS (tlT K L cd ar m) (nxT K L) N (t + 2)).1 = 0 then (0, [] ++ (tlS (tlT K L cd ar m) (nxT K L) N (t + 2)).2) else ((tlS (tlT K L cd ar m) (nxT K L) N (t + 2)).1, [])
          rw [hTT, List.nil_append]
          by_cases hq : T.1 = 0
          · rw [if_pos hq]
            exact Prod.ext hq rfl
          · rw [if_neg hq]
            have : tlS (tlT K L cd ar m) (nxT K L) N (t + 2) = T := hTT
            refine Prod.ext rfl ?_
            rw [← this] at hq ⊢
            cases N with
            | zero => rfl
            | succ N =>
              rw [tlS_s] at hq ⊢
              by_cases h1 : (tlT K L cd ar m (t + 2)).1 = 0
              · rw [if_pos h1] at hq ⊢
                by_cases h2 : (tlS (tlT K L cd ar m) (nxT K L) N (nxT K L (t + 2) + 1)).1 = 0
                · rw [if_pos h2] at hq
                  exact absurd rfl hq
                · rw [if_neg h2]
              · rw [if_neg h1]
      rintro c1 c2 c3 c4 c5 c6 c7 c8 w ⟨g1, g2, g4, g5, g6, g7, i, g8, g9, g10, g11⟩
      subst g1 g2 g4 g5 g6
      -- the end
      have fin : ((w.1 P 14).toInt = 0 → i = N) → v_132_100 (fun j => Zt (3 + (m + 1) + 8) (wd P j) j) P c1 c2 c3 c4 c5 (s2.1 P 10) c7 c8 w (fun v s' => ∃ r : Int32, v = some (.int r) ∧ TLq P k t E R s2 s' r) := by
        intro hiN
        have ret : ∀ w' : zS, TLf P k s2 w' → (w'.1 P 14).toInt = R.1 → (R.1 = 0 → w' = w) → (R.1 = 0 → (w.1 P 14).toInt = 0 ∧ ∃ l : List (Int × Int), (w.1 P 10).toInt = k + 1 + (l.length : Int) ∧ WDz P w k (cd t :: l.map Prod.fst) ∧ TTz P w k (t :: l.map Prod.snd) ∧ (l.length : Int) + 2 ≤ uS (nxT K L) (t + 2) i - t ∧ R = (0, (cd t, t) :: l)) → v_132_112 (fun j => Zt (3 + (m + 1) + 8) (wd P j) j) P c1 c2 c3 c4 c5 (s2.1 P 10) c7 c8 w' (fun v s' => ∃ r : Int32, v = some (.int r) ∧ TLq P k t E R s2 s' r) := by
          intro w' k1 k2 k3 k4
          have ans : ∀ r : Int32, (R.1 = 0 → r.toInt = E) → TLq P k t E R s2 w' r := by
            intro r hr
            refine ⟨k1, k2, fun h0 => ?_⟩
            obtain ⟨q0, l, q1, q2, q3, q4, q5⟩ := k4 h0
            have q6 := hiN q0
            rw [k3 h0, q5]
            refine ⟨?_, q2, q3, hr h0, ?_⟩
            · rw [q1]
              show k + 1 + (l.length : Int) = k + ((l.length + 1 : Nat) : Int)
              omega
            · show ((l.length + 1 : Nat) : Int) ≤ E - t
              rw [q6] at q4
              rcases hN with ⟨c1, c2, c3⟩ | ⟨-, c2, c3⟩
              · omega
              · rw [c2] at q4
                have e : uS (nxT K L) (t + 2) 0 = t + 2 := rfl
                omega
          unfold v_132_112 v_132_119
          refine ⟨fun z => ⟨c7, rfl, ans c7 (fun h0 => ?_)⟩, fun z x1 hx1 => ⟨x1, rfl, ans x1 (fun h0 => ?_)⟩⟩
          · obtain ⟨q0, -⟩ := k4 h0
            have q6 := hiN q0
            have q7 := (g11 q0).2.1
            clear g11 k4 ans
            rcases hb4 with ⟨-, hb⟩ | ⟨hb, -⟩
            · rcases hN with ⟨c1, -⟩ | ⟨-, c2, c3⟩
              · exact absurd c1 hb
              · rw [q6, c2] at q7
                have e : uS (nxT K L) (t + 2) 0 = t + 2 := rfl
                omega
            · omega
          · obtain ⟨q0, -⟩ := k4 h0
            have q6 := hiN q0
            have q7 := (g11 q0).2.1
            clear g11 k4 ans
            rcases hb4 with ⟨hb, -⟩ | ⟨-, hb⟩
            · exact absurd hb z
            · rcases hN with ⟨-, c2, c3⟩ | ⟨c1, -⟩
              · rw [q6] at q7
                have := hx1 (by omega)
                omega
              · exact absurd hb c1
        unfold v_132_100
        intro x1 hx1
        by_cases h0 : (w.1 P 14).toInt = 0
        · obtain ⟨q1, q2, l, q3, q4, q5, q6, q7⟩ := g11 h0
          clear g11
          have q8 := hiN h0
          have hub : uS (nxT K L) (t + 2) i ≤ n + 2 := by
            rw [q8]
            rcases hN with ⟨-, -, c3'⟩ | ⟨-, c2', c3'⟩
            · omega
            · rw [c2']
              show t + 2 ≤ n + 2
              omega
          have ex1 := hx1 (by omega)
          have hT0 : T = (0, l) := by
            rw [q7, q8, Nat.sub_self]
            show (if (0 : Int) = 0 then ((0 : Int), l ++ []) else _) = _
            rw [if_pos rfl, List.append_nil]
          have hR0 := hφ2 q1
          rw [hT0, if_pos rfl] at hR0
          refine ⟨fun z => ?_, fun z => ?_⟩
          · rw [if_neg (show ¬ 60 < l.length + 1 by omega)] at hR0
            exact ret w g7 (by rw [h0, hR0]) (fun _ => rfl) (fun _ => ⟨h0, l, q3, q4, q5, q6, hR0⟩)
          · rw [if_pos (show 60 < l.length + 1 by omega)] at hR0
            refine Zt.imp (Zt.mo (d := 9) (by omega) (zs_38b (d := 0) hP (by rw [TLf_K g7 (by decide) (by decide), hL, e1]; omega) (by decide))) ?_
            rintro v2 s4 ⟨rfl, hc⟩
            refine ⟨rfl, ?_⟩
            rcases hc with ⟨-, -, x, hx, rfl⟩ | ⟨hc, -⟩
            · rw [TLf_K g7 (by decide) (by decide), hL, e1, show (9 : Int32).toInt = 9 by decide] at hx
              have hn0 : ¬ R.1 = 0 := by rw [hR0]; show ¬ 9 + 16 * L t = 0; omega
              exact ret _ (TLf_tr g7 TLf_ft (Int.le_refl _)) (by rw [zf_1, if_pos ⟨rfl, rfl⟩, hx, hR0]) (fun z => absurd z hn0) (fun z => absurd z hn0)
            · exact absurd ⟨h0, by decide⟩ hc
        · have hn0 : ¬ R.1 = 0 := by rw [g10 h0]; exact h0
          refine ⟨fun z => ret w g7 (g10 h0).symm (fun z => absurd z hn0) (fun z => absurd z hn0), fun z => ?_⟩
          refine Zt.imp (Zt.mo (d := 9) (by omega) (zs_38b (d := 0) hP (by rw [TLf_K g7 (by decide) (by decide), hL, e1]; omega) (by decide))) ?_
          rintro v2 s4 ⟨rfl, hc⟩
          refine ⟨rfl, ?_⟩
          rcases hc with ⟨hc, -⟩ | ⟨-, hs⟩
          · exact absurd hc h0
          · rw [hs]
            exact ret w g7 (g10 h0).symm (fun z => absurd z hn0) (fun z => absurd z hn0)
      unfold v_132_79
      refine ⟨fun z => fin (fun _ => by omega), fun z => ⟨fun z1 => fin (fun q => absurd q z1), fun z1 => ⟨fun z2 => by omega, fun z2 x1 hx1 y2 hy2 => ?_⟩⟩⟩
      obtain ⟨q1, q2, l, q3, q4, q5, q6, q7⟩ := g11 z1
      clear g11
      have hi : i < N := by omega
      obtain ⟨p1, p2, p3⟩ := hps i hi
      have p4 := hEN i hi
      have p5 := hmo 0 i (by omega) (by omega)
      have e0 : uS (nxT K L) (t + 2) 0 = t + 2 := rfl
      rw [e0] at p5
      have ex1 := hx1 (by omega)
      have ey2 := hy2 (by omega)
      have hH2 := TLh_f hP g7 hH
      refine Zt.imp (Zt.mo (d := 12 + m) (by omega) (ih (by omega) x1 y2 (uS (nxT K L) (t + 2) i) (k + 1 + (l.length : Int)) w (by omega) (by omega) (by omega) p1 (by omega) z1 q3 (by omega) (by rw [p2]; omega) (fun q h1 h2 h3 => LT_f g7 hLT q (by omega) (by omega) h3) hH2)) ?_
      rintro v3 s4 ⟨x5, rfl, hq⟩
      refine ⟨x5, rfl, fun x6 hx6 => ?_⟩
      have ex6 := hx6 (by omega)
      obtain ⟨r1, r2, r3⟩ := hq
      have ens : N - i = (N - (i + 1)) + 1 := by omega
      rw [ens, tlS_s] at q7
      refine ⟨⟨rfl, rfl, rfl, rfl, rfl, TLf_tr g7 r1 (by omega), i + 1, by omega, by omega, fun h => ?_, fun h => ?_⟩, by dsimp only; omega⟩
      · rw [r2] at h ⊢
        rw [if_neg h] at q7
        have hT1 : ¬ T.1 = 0 := by rw [q7, if_neg h]; exact h
        have hR0 := hφ2 q1
        rw [if_neg hT1] at hR0
        rw [hR0, q7, if_neg h]
      · rw [r2] at h
        obtain ⟨r4, r5, r6, r7, r8⟩ := r3 h
        rw [if_pos h] at q7
        refine ⟨q1, ?_, l ++ (tlT K L cd ar m (uS (nxT K L) (t + 2) i)).2, ?_, ?_, ?_, ?_, ?_⟩
        · rw [r7, p2]
          show nxT K L (uS (nxT K L) (t + 2) i) = nxT K L (uS (nxT K L) (t + 2) i) + 1 - 1
          omega
        · rw [r4, List.length_append]
          omega
        · rw [List.map_append, ← List.cons_append]
          refine WDz_app (WDz_f r1 q4 (by rw [List.length_cons, List.length_map]; omega)) ?_
          rw [List.length_cons, List.length_map, show k + ((l.length + 1 : Nat) : Int) = k + 1 + (l.length : Int) by omega]
          exact r5
        · rw [List.map_append, ← List.cons_append]
          refine TTz_app (TTz_f r1 q5 (by rw [List.length_cons, List.length_map]; omega)) ?_
          rw [List.length_cons, List.length_map, show k + ((l.length + 1 : Nat) : Int) = k + 1 + (l.length : Int) by omega]
          exact r6
        · rw [List.length_append]
          show _ ≤ nxT K L (uS (nxT K L) (t + 2) i) + 1 - t
          rw [p2] at r8
          omega
        · have es : nxT K L (uS (nxT K L) (t + 2) i) + 1 = uS (nxT K L) (t + 2) (i + 1) := rfl
          rw [es] at q7
          rw [q7]
          by_cases h2 : (tlS (tlT K L cd ar m) (nxT K L) (N - (i + 1)) (uS (nxT K L) (t + 2) (i + 1))).1 = 0
          · rw [if_pos h2, if_pos h2]
            show (if (0 : Int) = 0 then _ else _) = _
            rw [if_pos rfl, List.append_assoc]
          · rw [if_neg h2, if_neg h2, if_neg h2]
    -- how many
    have cnt : ∀ (b4 t1 : Int32), ((b4.toInt = 0 ∧ ¬ K (t + 1) = 91) ∨ (b4.toInt = 1 ∧ K (t + 1) = 91)) → t1.toInt = (N : Int) → v_132_28 (fun j => Zt (3 + (m + 1) + 8) (wd P j) j) P a1 a2 x3 b4 t1 s2 (fun v s' => ∃ r : Int32, v = some (.int r) ∧ TLq P k t E R s2 s' r) := by
      intro b4 t1 hb4 ht1
      unfold v_132_28
      rw [zg_K, hA, hx3, ht1]
      have bl : ∀ (y : Int32) (b5 : Int32), (y.toInt = 2 ∨ y.toInt = 4) → R = (y.toInt + 16 * L t, []) → b5.toInt = (N : Int) → Zt (3 + (m + 1) + 8) (wd P 38) 38 [.ref P, .int y, .int a1] s2 (fun v3 s4 => v3 = none ∧ v_132_49 (fun j => Zt (3 + (m + 1) + 8) (wd P j) j) P a1 a2 x3 b4 b5 s4 (fun v s' => ∃ r : Int32, v = some (.int r) ∧ TLq P k t E R s2 s' r)) := by
        intro y b5 hy hRy hb5
        refine Zt.imp (Zt.mo (d := 9) (by omega) (zs_38b (d := 0) hP (by rw [hL, e1]; omega) (by omega))) ?_
        rintro v3 s4 ⟨rfl, hc⟩
        refine ⟨rfl, ?_⟩
        rcases hc with ⟨-, -, x, hx, rfl⟩ | ⟨hc, -⟩
        · rw [hL, e1] at hx
          refine body _ b4 b5 (y.toInt + 16 * L t) TLf_ft ?_ ?_ hb4 hb5 (fun _ => by rw [hRy]) (fun h => by omega)
          · rw [zf_1, if_neg (fun e => absurd e.2 (by decide))]
          · rw [zf_1, if_pos ⟨rfl, rfl⟩, hx]
        · exact absurd ⟨h14, by omega⟩ hc
      refine ⟨fun z => ⟨fun z1 => ?_, fun z1 => ?_⟩, fun z => ?_⟩
      · refine body s2 b4 t1 0 TLf_rf rfl h14 hb4 ht1 (fun q => absurd rfl q) (fun _ => ?_)
        rw [hR, if_neg (by omega), if_neg (fun q => q z1)]
      · refine bl 4 t1 (Or.inr (by decide)) ?_ ht1
        rw [hR, if_neg (by omega), if_pos z1]
        rfl
      · refine bl 2 t1 (Or.inl (by decide)) ?_ ht1
        rw [hR, if_pos (by omega)]
        rfl
    rw [zg_K, hK, ex4, e1]
    refine ⟨fun z => ?_, fun z => ?_⟩
    · unfold v_132_16
      refine ⟨fun _ => cnt 0 0 (Or.inl ⟨by decide, z⟩) ?_, fun q => absurd (by decide) q⟩
      rcases hN with ⟨c1, -⟩ | ⟨-, c2, -⟩
      · exact absurd c1 z
      · rw [c2]
        decide
    · unfold v_132_16
      refine ⟨fun q => absurd q (by decide), fun _ x1 hx1 => cnt 1 _ (Or.inr ⟨by decide, z⟩) ?_⟩
      have ex1 := hx1 (by omega)
      rw [zg_K, ex1, e1]
      rcases hN with ⟨-, c2, c3⟩ | ⟨c1, -⟩
      · rw [c2]
        have := (u2 z).1
        have hh := hmo 0 N (by omega) (Nat.le_refl _)
        have e0 : uS (nxT K L) (t + 2) 0 = t + 2 := rfl
        rw [e0, c3] at hh
        exact hLT (t + 1) (by omega) (by omega) z
      · exact absurd z c1
end WTL
