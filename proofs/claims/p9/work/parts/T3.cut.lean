/-! ===== cutAll: tokens ===== -/
def rgc (sg : Nat → Int32) (j i : Nat) : Int := rkc (sg (j + i)).toInt
/-- a word of l signs from j on, as two numbers -/
def ecw (sg : Nat → Int32) (j l : Nat) : Int64 × Int64 := (Int64.ofInt (wvl (rgc sg j) (min l 9)), Int64.ofInt (wvl (rgc sg (j + 9)) (l - 9)))
/-- a token: its sort and its word -/
def tkr (sg : Nat → Int32) (j l : Nat) (Wl : List (Int64 × Int64)) (so wo : Int) : Prop := (isLt (sg j).toInt = true → (l ≤ 12 → so = 1 ∧ ∃ q : Nat, wo = (q : Int) ∧ Wl[q]? = some (ecw sg j l)) ∧ (12 < l → so = 4)) ∧ (isLt (sg j).toInt = false → (sgB (sg j).toInt = true → so = 3 ∧ wo = (sg j).toInt) ∧ (sgB (sg j).toInt = false → so = 4))
/-- the tokens that begin ahead of k -/
def RKp (sg : Nat → Int32) (B : Int) (n k : Nat) (Wl : List (Int64 × Int64)) (s : yS) : Prop := ∀ j, j < k → stt sg j = true → ∃ e : Nat, WEd sg n j e ∧ (s.2.1 216 (B + (ntk sg j : Int)).toNat).toInt = (j : Int) ∧ tkr sg j (e - j) Wl (s.2.1 215 (B + (ntk sg j : Int)).toNat).toInt (s.2.1 217 (B + (ntk sg j : Int)).toNat).toInt
/-- words are only added -/
def Pre (Wl Wl' : List (Int64 × Int64)) : Prop := ∀ (i : Nat) (p : Int64 × Int64), Wl[i]? = some p → Wl'[i]? = some p
section TCT
variable {d : Nat} {s s' t : yS} {b B : Int} {sg : Nat → Int32} {n k e j l : Nat} {Wl Wl' : List (Int64 × Int64)} {so wo : Int}
theorem tkr_pre (h : Pre Wl Wl') (g : tkr sg j l Wl so wo) : tkr sg j l Wl' so wo := by
  refine ⟨fun hl => ⟨fun h12 => ?_, (g.1 hl).2⟩, g.2⟩
  obtain ⟨g1, q, g2, g3⟩ := (g.1 hl).1 h12
  exact ⟨g1, q, g2, h q _ g3⟩
theorem RKp_skip (h : RKp sg B n k Wl s) (hs : stt sg k = false) : RKp sg B n (k + 1) Wl s := fun j hj hst => by
  by_cases e : j = k
  · rw [e, hs] at hst
    cases hst
  · exact h j (by omega) hst
theorem RKp_ext (hB : 0 ≤ B) (h : RKp sg B n k Wl s) (hp : Pre Wl Wl') (hs : stt sg k = true) (hW : WEd sg n k e) (hr : ∀ p i : Nat, (p = 215 ∨ p = 216 ∨ p = 217) → (i : Int) < B + (ntk sg k : Int) → s'.2.1 p i = s.2.1 p i) (h6 : (s'.2.1 216 (B + (ntk sg k : Int)).toNat).toInt = (k : Int)) (h5 : tkr sg k (e - k) Wl' (s'.2.1 215 (B + (ntk sg k : Int)).toNat).toInt (s'.2.1 217 (B + (ntk sg k : Int)).toNat).toInt) : RKp sg B n e Wl' s' := fun j hj hst => by
  by_cases hk : j < k
  · obtain ⟨e', g1, g2, g3⟩ := h j hk hst
    have hl := ntk_lt (sg := sg) hk hst
    refine ⟨e', g1, ?_, ?_⟩
    · rw [hr 216 _ (by omega) (by omega)]
      exact g2
    · rw [hr 215 _ (by omega) (by omega), hr 217 _ (by omega) (by omega)]
      exact tkr_pre hp g3
  · by_cases ee : j = k
    · rw [ee]
      exact ⟨e, hW, h6, h5⟩
    · exfalso
      have := hW.2.2.1 j (by omega) hj
      unfold stt at hst
      rw [this] at hst
      simp at hst
theorem ofI_st {m : Nat} {f : Nat → Int} {x : Int32} (hx : x.toInt = f m) : (64 : Int64) * Int64.ofInt (wvl f m) + Int32.toInt64 x = Int64.ofInt (wvl f (m + 1)) := by
  rw [toI64, hx]
  show _ = Int64.ofInt (64 * wvl f m + f m)
  rw [Int64.ofInt_add, Int64.ofInt_mul]
  rfl
/-- what cutting leaves -/
def CTf (B b : Int) (s s' : yS) : Prop := (∀ q, ¬ q = 2 → ¬ q = 3 → ¬ q = 7 → ¬ q = 8 → s'.1 q = s.1 q) ∧ ∀ p i : Nat, ¬ ((p = 215 ∨ p = 216 ∨ p = 217) ∧ B ≤ (i : Int)) → ¬ (p = 220 ∧ i = b.toNat) → s'.2.1 p i = s.2.1 p i
theorem CTf_tr {s'' : yS} (h : CTf B b s s') (g : CTf B b s' s'') : CTf B b s s'' := ⟨fun q h1 h2 h3 h4 => (g.1 q h1 h2 h3 h4).trans (h.1 q h1 h2 h3 h4), fun p i h1 h2 => (g.2 p i h1 h2).trans (h.2 p i h1 h2)⟩
/-- what stands as the loop over the tape begins again -/
def CLp (sg : Nat → Int32) (B b : Int) (n : Nat) (s : yS) (a1 a2 : Int32) (t : yS) : Prop := ∃ (k : Nat) (Wl : List (Int64 × Int64)), a2.toInt = (k : Int) ∧ k ≤ n ∧ (k = n ∨ iwd sg k = false) ∧ a1.toInt = B + (ntk sg k : Int) ∧ RKp sg B n k Wl t ∧ WTb b Wl t ∧ Wl.Nodup ∧ Pre (kst 39).2 Wl ∧ CTf B b s t ∧ t.1 3 = s.1 2 ∧ (t.1 2).toInt = 0
set_option maxHeartbeats 4000000 in
/-- a word: its signs, its number -/
theorem x_162w (hsg : s.2.1 214 = sg) (h9 : (s.1 9).toInt = b) (hb : 0 ≤ b) (hB : 0 ≤ B) (hn2 : (s.1 2).toInt = (n : Int)) (hn : n ≤ 4000) {a1 a2 a3 : Int32} {Q : Option Value → yS → Prop} (hk : a2.toInt = (k : Int)) (hkn : k < n) (hst : stt sg k = true) (hlt : isLt (sg k).toInt = true) (h1 : a1.toInt = B + (ntk sg k : Int)) (hR : RKp sg B n k Wl t) (hW : WTb b Wl t) (hND : Wl.Nodup) (hPre : Pre (kst 39).2 Wl) (hC : CTf B b s t) (h3 : t.1 3 = s.1 2) (h2 : (t.1 2).toInt = 0) (h6 : (t.2.1 216 a1.toInt.toNat) = a2) : ubl_162_43 (Par d) (fun x1 x2 u => CLp sg B b n s x1 x2 u) a1 a2 a3 a2 0 t Q := by
  have s214 : t.2.1 214 = sg := by
    rw [← hsg]
    exact funext fun i => hC.2 214 i (by omega) (by omega)
  have h3' : (t.1 3).toInt = (n : Int) := by rw [h3]; exact hn2
  have h9t : (t.1 9).toInt = b := by rw [hC.1 9 (by decide) (by decide) (by decide) (by decide)]; exact h9
  have hiw : iwd sg k = false := by
    unfold stt at hst
    cases e : iwd sg k with
    | false => rfl
    | true =>
      rw [e] at hst
      simp at hst
  refine ⟨fun c1 c2 c3 c4 c5 u => c1 = a1 ∧ c4 = a2 ∧ u = t ∧ ∃ e : Nat, c2.toInt = (e : Int) ∧ k ≤ e ∧ e ≤ n ∧ (∀ j, k < j → j < e → iwd sg j = true) ∧ c5 = Int64.ofInt (wvl (rgc sg k) (min (e - k) 9)), ⟨rfl, rfl, rfl, k, hk, Nat.le_refl _, by omega, fun j h1 h2 => by omega, by rw [Nat.sub_self]; rfl⟩, ?_⟩
  rintro c1 c2 c3 c4 c5 u ⟨e1, e2, e3, e, g1, g2, g3, g4, g5⟩
  subst e1 e2 e3
  -- behind the word
  have beh : k < e → (e = n ∨ iwd sg e = false) → ub_162_79 (Par d) (fun x1 x2 u => CLp sg B b n s x1 x2 u) c1 c2 c3 c4 c5 u Q := by
    intro hke hend
    have hWE : WEd sg n k e := ⟨hke, g3, g4, hend⟩
    unfold ub_162_79
    intro _ x1 hx1
    refine ⟨fun d1 d2 d3 d4 d5 d7 d9 z => d1 = c1 ∧ d2 = c2 ∧ d4 = c4 ∧ d5 = c5 ∧ z = u ∧ ∃ i : Nat, d9.toInt = (k : Int) + 9 + (i : Int) ∧ i ≤ 3 ∧ (0 < i → k + 9 + i ≤ e) ∧ d7 = Int64.ofInt (wvl (rgc sg (k + 9)) i), ⟨rfl, rfl, rfl, rfl, rfl, 0, by omega, by omega, fun w => by omega, rfl⟩, ?_⟩
    rintro d1 d2 d3 d4 d5 d7 d9 z ⟨f1, f2, f4, f5, f6, i, q1, q2, q3, q4⟩
    subst f1 f2 f4 f5 f6
    -- the token is written
    have wr : (e - k ≤ 12 → i = e - k - 9) → ub_162_106 (Par d) (fun x1 x2 u => CLp sg B b n s x1 x2 u) d1 d2 d3 d4 d5 d7 d9 z Q := by
      intro hi
      have hntk := ntk_run hst hke g4
      -- the sort and the word are written: go on
      have go : ∀ (x : Int32) (w w' : yS) (Wl' : List (Int64 × Int64)), WTb b Wl' w' → Wl'.Nodup → Pre Wl Wl' → CTf B b z w' → w'.1 3 = s.1 2 → (w'.1 2).toInt = 0 → (∀ p i : Nat, (p = 215 ∨ p = 216 ∨ p = 217) → ¬ (p = 215 ∧ i = d1.toInt.toNat) → w'.2.1 p i = z.2.1 p i) → (tkr sg k (e - k) Wl' (w'.2.1 215 d1.toInt.toNat).toInt x.toInt) → ub_162_133 (Par d) (fun x1 x2 u => CLp sg B b n s x1 x2 u) d1 d2 d3 d4 d5 d7 d9 d1 x w' Q := by
        intro x w w' Wl' m1 m2 m3 m4 m5 m5' m6 m7
        unfold ub_162_133 ub_162_151
        intro _ s1 hs1 _ x1' hx1'
        have e1 : s1.1 = w'.1 := by rw [hs1]; rfl
        have r1 : ∀ q i, s1.2.1 q i = if q = 217 ∧ i = d1.toInt.toNat then x else w'.2.1 q i := fun q i => by rw [hs1, sa_21]
        have l1 : s1.2.2 = w'.2.2 := by rw [hs1]; rfl
        have ed : d1.toInt.toNat = (B + (ntk sg k : Int)).toNat := by rw [h1]
        refine ⟨e, Wl', g1, g3, hend, by rw [hx1', hntk]; omega, RKp_ext hB hR m3 hst hWE (fun p i hp hi' => ?_) ?_ ?_, ⟨?_, ?_⟩, m2, fun i p hp => m3 i p (hPre i p hp), CTf_tr hC ⟨fun q h1 h2 h3 h4 => by rw [e1]; exact m4.1 q h1 h2 h3 h4, fun p i h1' h2' => ?_⟩, by rw [e1]; exact m5, by rw [e1]; exact m5'⟩
        · rw [r1, if_neg (by omega), m6 p i hp (by omega)]
        · rw [← ed, r1, if_neg (by omega), m6 216 _ (by omega) (by omega), h6, hk]
        · rw [← ed, r1, if_neg (by omega), r1, if_pos ⟨rfl, rfl⟩]
          exact m7
        · rw [r1, if_neg (by omega)]
          exact m1.1
        · rw [l1]
          exact m1.2
        · rw [r1, if_neg (by omega), m4.2 p i h1' h2']
      unfold ub_162_106
      intro _ x2 hx2
      have ex2 : x2.toInt = (e : Int) - (k : Int) := by omega
      have w17 : ∀ (tv : Int32), (tv.toInt = 1 ∧ e - k ≤ 12) ∨ (tv.toInt = 4 ∧ 12 < e - k) → ub_162_117 (Par d) (fun x1 x2 u => CLp sg B b n s x1 x2 u) d1 d2 d3 d4 d5 d7 d9 d1 tv z Q := by
        intro tv htv
        unfold ub_162_117
        intro _ s1 hs1 _
        have e1 : s1.1 = z.1 := by rw [hs1]; rfl
        have r1 : ∀ q i, s1.2.1 q i = if q = 215 ∧ i = d1.toInt.toNat then tv else z.2.1 q i := fun q i => by rw [hs1, sa_21]
        have l1 : s1.2.2 = z.2.2 := by rw [hs1]; rfl
        have W1 : WTb b Wl s1 := ⟨by rw [r1, if_neg (by omega)]; exact hW.1, by rw [l1]; exact hW.2⟩
        have C1 : CTf B b z s1 := ⟨fun q _ _ _ _ => by rw [e1], fun p i h1' _ => by rw [r1, if_neg (by omega)]⟩
        rw [r1, if_pos ⟨rfl, rfl⟩]
        refine ⟨fun hne => ?_, fun heq => ?_⟩
        · rcases htv with ⟨ht, -⟩ | ⟨ht, h12⟩
          · exact absurd ht hne
          refine go (-1) s1 s1 Wl W1 hND (fun _ _ h => h) C1 (by rw [e1]; exact h3) (by rw [e1]; exact h2) (fun p i _ hp => by rw [r1, if_neg hp]) ?_
          rw [r1, if_pos ⟨rfl, rfl⟩]
          exact ⟨fun _ => ⟨fun w => by omega, fun _ => ht⟩, fun w => by rw [hlt] at w; cases w⟩
        · rcases htv with ⟨ht, h12⟩ | ⟨ht, -⟩
          · refine Par.imp (x_160 (b := b) (by rw [e1]; exact h9t) hb W1) ?_
            rintro v3 s2 ⟨x4, q, Wl', rfl, c1, c2, c3, c4⟩
            refine ⟨x4, rfl, ?_⟩
            refine go x4 s1 s2 Wl' c3 (WAd_nd c2 hND) (fun i p hp => WAd_pre c2 hp) ⟨fun q h1 h2 h3 h4 => by rw [c4.1, e1], fun p i h1' h2' => by rw [c4.2 p i h2', r1, if_neg (by omega)]⟩ (by rw [c4.1, e1]; exact h3) (by rw [c4.1, e1]; exact h2) (fun p i hp hp2 => by rw [c4.2 p i (by omega), r1, if_neg hp2]) ?_
            rw [c4.2 215 _ (by omega), r1, if_pos ⟨rfl, rfl⟩]
            refine ⟨fun _ => ⟨fun _ => ⟨ht, q, c1, ?_⟩, fun w => by omega⟩, fun w => by rw [hlt] at w; cases w⟩
            rw [c2.1]
            unfold ecw
            rw [g5, q4, hi h12]
          · omega
      exact ⟨fun w => w17 1 (Or.inl ⟨by decide, by omega⟩), fun w => w17 4 (Or.inr ⟨by decide, by omega⟩)⟩
    unfold ub_162_85
    refine ⟨fun w => wr (fun h12 => ?_), fun w _ x2 hx2 => ⟨fun w2 => wr (fun h12 => ?_), fun w2 _ => ?_⟩⟩
    · by_cases i0 : i = 0
      · omega
      · have := q3 (by omega)
        omega
    · omega
    · refine Par.imp x_158 ?_
      rintro v3 s2 ⟨rfl, x4, rfl, hx4⟩
      refine ⟨x4, rfl, fun _ x5 hx5 => ⟨rfl, rfl, rfl, rfl, rfl, i + 1, by omega, by omega, fun _ => by omega, ?_⟩⟩
      rw [q4]
      refine ofI_st ?_
      rw [hx4, s214]
      unfold rgc
      rw [show d9.toInt.toNat = k + 9 + i by omega]
  -- one sign more
  have more : e < n → (isLt (sg e).toInt = true ∨ isDg (sg e).toInt = true) → (k < e → iwd sg e = true) → ub_162_59 (Par d) (fun x1 x2 u => CLp sg B b n s x1 x2 u) (fun c1' c2 c3 c4' c5 u' => c1' = c1 ∧ c4' = c4 ∧ u' = u ∧ ∃ e : Nat, c2.toInt = (e : Int) ∧ k ≤ e ∧ e ≤ n ∧ (∀ j, k < j → j < e → iwd sg j = true) ∧ c5 = Int64.ofInt (wvl (rgc sg k) (min (e - k) 9))) c1 c2 c3 c4 c5 u Q := by
    intro hen hch hiwe
    have st : ∀ c5' : Int64, c5' = Int64.ofInt (wvl (rgc sg k) (min (e + 1 - k) 9)) → ub_162_76 (Par d) (fun x1 x2 u => CLp sg B b n s x1 x2 u) (fun c1' c2 c3 c4' c5 u' => c1' = c1 ∧ c4' = c4 ∧ u' = u ∧ ∃ e : Nat, c2.toInt = (e : Int) ∧ k ≤ e ∧ e ≤ n ∧ (∀ j, k < j → j < e → iwd sg j = true) ∧ c5 = Int64.ofInt (wvl (rgc sg k) (min (e - k) 9))) c1 c2 c3 c4 c5 c5' u Q := by
      intro c5' hc
      unfold ub_162_76
      intro _ x1 hx1
      refine ⟨rfl, rfl, rfl, e + 1, by omega, by omega, by omega, fun j j1 j2 => ?_, hc⟩
      by_cases ej : j = e
      · rw [ej]
        exact hiwe (by omega)
      · exact g4 j j1 (by omega)
    unfold ub_162_59
    intro _ x1 hx1
    refine ⟨fun w => st c5 ?_, fun w _ => ?_⟩
    · rw [g5, show min (e - k) 9 = 9 by omega, show min (e + 1 - k) 9 = 9 by omega]
    · refine Par.imp x_158 ?_
      rintro v3 s2 ⟨rfl, x4, rfl, hx4⟩
      refine ⟨x4, rfl, st _ ?_⟩
      rw [g5, show min (e + 1 - k) 9 = min (e - k) 9 + 1 by omega]
      refine ofI_st ?_
      rw [hx4, s214]
      unfold rgc
      rw [show c2.toInt.toNat = k + min (e - k) 9 by omega]
  -- is the sign at e one of the word's
  have iwe : k < e → iwd sg e = (isLt (sg e).toInt || isDg (sg e).toInt) := fun hke => by
    obtain ⟨e', rfl⟩ : ∃ e', e = e' + 1 := ⟨e - 1, by omega⟩
    refine iwd_go ?_
    by_cases ek : e' = k
    · rw [ek]
      exact Or.inl hlt
    · exact Or.inr (g4 e' (by omega) (by omega))
  unfold ub_162_43
  rw [h3']
  refine ⟨fun w => beh (by omega) (Or.inl (by omega)), fun w _ => ?_⟩
  have hen : e < n := by omega
  have ec : (u.2.1 214 c2.toInt.toNat) = sg e := by rw [s214, show c2.toInt.toNat = e by omega]
  rw [ec]
  refine Par.imp x_156 ?_
  rintro v2 s1 ⟨rfl, x3, rfl, hr⟩
  refine ⟨x3, rfl, fun w3 => ?_, fun w3 => ?_⟩
  · rcases hr with ⟨-, z1⟩ | ⟨z1, -⟩
    · exact more hen (Or.inl z1) (fun hke => by rw [iwe hke, z1]; rfl)
    · omega
  · rcases hr with ⟨z1, -⟩ | ⟨-, z1⟩
    · omega
    have hke : k < e := by
      rcases Nat.lt_or_ge k e with h | h
      · exact h
      · exfalso
        rw [show e = k by omega, hlt] at z1
        cases z1
    intro _
    rw [ec]
    refine Par.imp x_157 ?_
    rintro v5 s4 ⟨rfl, x6, rfl, hr⟩
    refine ⟨x6, rfl, fun w6 => ?_, fun w6 => ?_⟩
    · rcases hr with ⟨z2, -⟩ | ⟨-, z2⟩
      · omega
      refine beh hke (Or.inr ?_)
      rw [iwe hke, z1, z2]
      rfl
    · rcases hr with ⟨-, z2⟩ | ⟨z2, -⟩
      · exact more hen (Or.inr z2) (fun hke => by rw [iwe hke, z1, z2]; rfl)
      · omega
end TCT
