/-! ===== the tables' numbers: types, funcs, heads, slots ===== -/
def dHd (K L : Int → Int) (t : Int) : List Int := if K t = 6 then [(f_5 K L false (0, t)).2] else if tSt K L false (0, t) = true then [] else tMe K L false (0, t)
def hdL (K L : Int → Int) : List Int → List Int
  | [] => []
  | t :: l => dHd K L t ++ hdL K L l
def tyL (K : Int → Int) : List Int → List Int
  | [] => []
  | t :: l => (if K t = 6 then [] else [t]) ++ tyL K l
def fnL (K : Int → Int) : List Int → List Int
  | [] => []
  | t :: l => (if K t = 6 then [t] else []) ++ fnL K l
section WIX
variable {K L : Int → Int} {lo hi : Int}
theorem dHd_len {t : Int} : (dHd K L t).length = if K t = 6 then 1 else tNh K L false (0, t) := by
  unfold dHd tNh
  by_cases h6 : K t = 6
  · rw [if_pos h6, if_pos h6]
    rfl
  · rw [if_neg h6, if_neg h6]
    by_cases hs : tSt K L false (0, t) = true
    · rw [if_pos hs, if_pos hs]
      rfl
    · rw [if_neg hs, if_neg hs]
theorem hdL_len : ∀ l : List Int, (hdL K L l).length = kHd K L l
  | [] => rfl
  | t :: l => by
    show (dHd K L t ++ hdL K L l).length = (if K t = 6 then 1 else tNh K L false (0, t)) + kHd K L l
    rw [List.length_append, hdL_len l, dHd_len]
theorem tyL_len : ∀ l : List Int, (tyL K l).length = kTy K l
  | [] => rfl
  | t :: l => by
    show ((if K t = 6 then [] else [t]) ++ tyL K l).length = (if K t = 6 then 0 else 1) + kTy K l
    rw [List.length_append, tyL_len l]
    split <;> rfl
theorem fnL_len : ∀ l : List Int, (fnL K l).length = kFn K l
  | [] => rfl
  | t :: l => by
    show ((if K t = 6 then [t] else []) ++ fnL K l).length = (if K t = 6 then 1 else 0) + kFn K l
    rw [List.length_append, fnL_len l]
    split <;> rfl
theorem app_at {α : Type} {l l' : List α} {n : Nat} (h : l.length = n) (i : Nat) : (l ++ l')[n + i]? = l'[i]? := by
  rw [List.getElem?_append_right (by omega), show n + i - l.length = i by omega]
theorem hdL_at : ∀ (l : List Int) (i j : Nat) (t q : Int), l[i]? = some t → (dHd K L t)[j]? = some q → (hdL K L l)[kHd K L (l.take i) + j]? = some q
  | [], i, j, t, q, h, _ => by cases h
  | a :: l, 0, j, t, q, h, g => by
    have e : a = t := by simpa using h
    have hj := (List.getElem?_eq_some_iff.mp g).1
    show (dHd K L a ++ hdL K L l)[0 + j]? = some q
    rw [e, Nat.zero_add, List.getElem?_append_left hj]
    exact g
  | a :: l, i + 1, j, t, q, h, g => by
    show (dHd K L a ++ hdL K L l)[(if K a = 6 then 1 else tNh K L false (0, a)) + kHd K L (l.take i) + j]? = some q
    rw [← dHd_len, Nat.add_assoc, app_at rfl]
    exact hdL_at l i j t q h g
theorem hdL_inv : ∀ (l : List Int) (h : Nat) (q : Int), (hdL K L l)[h]? = some q → ∃ (i j : Nat) (t : Int), l[i]? = some t ∧ (dHd K L t)[j]? = some q ∧ h = kHd K L (l.take i) + j
  | [], h, q, g => by cases g
  | a :: l, h, q, g => by
    have g' : (dHd K L a ++ hdL K L l)[h]? = some q := g
    rcases Nat.lt_or_ge h (dHd K L a).length with w | w
    · rw [List.getElem?_append_left w] at g'
      exact ⟨0, h, a, rfl, g', by show h = 0 + h; omega⟩
    · rw [List.getElem?_append_right w] at g'
      obtain ⟨i, j, t, h1, h2, h3⟩ := hdL_inv l _ q g'
      refine ⟨i + 1, j, t, h1, h2, ?_⟩
      show h = (if K a = 6 then 1 else tNh K L false (0, a)) + kHd K L (l.take i) + j
      rw [← dHd_len]
      omega
theorem tyL_at : ∀ (l : List Int) (i : Nat) (t : Int), l[i]? = some t → ¬ K t = 6 → (tyL K l)[kTy K (l.take i)]? = some t
  | [], i, t, h, _ => by cases h
  | a :: l, 0, t, h, g => by
    have e : a = t := by simpa using h
    show ((if K a = 6 then [] else [a]) ++ tyL K l)[0]? = some t
    rw [e, if_neg g]
    rfl
  | a :: l, i + 1, t, h, g => by
    show ((if K a = 6 then [] else [a]) ++ tyL K l)[(if K a = 6 then 0 else 1) + kTy K (l.take i)]? = some t
    rw [app_at (by split <;> rfl)]
    exact tyL_at l i t h g
theorem tyL_inv : ∀ (l : List Int) (d : Nat) (t : Int), (tyL K l)[d]? = some t → ∃ i : Nat, l[i]? = some t ∧ ¬ K t = 6 ∧ d = kTy K (l.take i)
  | [], d, t, g => by cases g
  | a :: l, d, t, g => by
    have g' : ((if K a = 6 then [] else [a]) ++ tyL K l)[d]? = some t := g
    by_cases h6 : K a = 6
    · rw [if_pos h6] at g'
      obtain ⟨i, h1, h2, h3⟩ := tyL_inv l d t g'
      refine ⟨i + 1, h1, h2, ?_⟩
      show d = (if K a = 6 then 0 else 1) + kTy K (l.take i)
      rw [if_pos h6]
      omega
    · rw [if_neg h6] at g'
      cases d with
      | zero =>
        have e : a = t := by simpa using g'
        exact ⟨0, by rw [e]; rfl, by rw [← e]; exact h6, rfl⟩
      | succ d =>
        obtain ⟨i, h1, h2, h3⟩ := tyL_inv l d t g'
        refine ⟨i + 1, h1, h2, ?_⟩
        show d + 1 = (if K a = 6 then 0 else 1) + kTy K (l.take i)
        rw [if_neg h6]
        omega
theorem fnL_at : ∀ (l : List Int) (i : Nat) (t : Int), l[i]? = some t → K t = 6 → (fnL K l)[kFn K (l.take i)]? = some t
  | [], i, t, h, _ => by cases h
  | a :: l, 0, t, h, g => by
    have e : a = t := by simpa using h
    show ((if K a = 6 then [a] else []) ++ fnL K l)[0]? = some t
    rw [e, if_pos g]
    rfl
  | a :: l, i + 1, t, h, g => by
    show ((if K a = 6 then [a] else []) ++ fnL K l)[(if K a = 6 then 1 else 0) + kFn K (l.take i)]? = some t
    rw [app_at (by split <;> rfl)]
    exact fnL_at l i t h g
theorem fnL_inv : ∀ (l : List Int) (d : Nat) (t : Int), (fnL K l)[d]? = some t → ∃ i : Nat, l[i]? = some t ∧ K t = 6 ∧ d = kFn K (l.take i)
  | [], d, t, g => by cases g
  | a :: l, d, t, g => by
    have g' : ((if K a = 6 then [a] else []) ++ fnL K l)[d]? = some t := g
    by_cases h6 : K a = 6
    · rw [if_pos h6] at g'
      cases d with
      | zero =>
        have e : a = t := by simpa using g'
        exact ⟨0, by rw [e]; rfl, by rw [← e]; exact h6, rfl⟩
      | succ d =>
        obtain ⟨i, h1, h2, h3⟩ := fnL_inv l d t g'
        refine ⟨i + 1, h1, h2, ?_⟩
        show d + 1 = (if K a = 6 then 1 else 0) + kFn K (l.take i)
        rw [if_pos h6]
        omega
    · rw [if_neg h6] at g'
      obtain ⟨i, h1, h2, h3⟩ := fnL_inv l d t g'
      refine ⟨i + 1, h1, h2, ?_⟩
      show d = (if K a = 6 then 1 else 0) + kFn K (l.take i)
      rw [if_neg h6]
      omega
theorem aSl_at : ∀ (l : List Int) (i j : Nat) (h t : Int) (q : Int × Int × Int × Int), l[i]? = some t → (sDc K L (h + (kHd K L (l.take i) : Int)) t)[j]? = some q → (aSl K L h l)[(aSl K L h (l.take i)).length + j]? = some q
  | [], i, j, h, t, q, e, _ => by cases e
  | a :: l, 0, j, h, t, q, e, g => by
    have e' : a = t := by simpa using e
    have g' : (sDc K L h t)[j]? = some q := by
      have : h + ((kHd K L ((a :: l).take 0) : Nat) : Int) = h := by
        show h + ((0 : Nat) : Int) = h
        omega
      rw [this] at g
      exact g
    have hj := (List.getElem?_eq_some_iff.mp g').1
    show (sDc K L h a ++ aSl K L _ l)[0 + j]? = some q
    rw [e', Nat.zero_add, List.getElem?_append_left hj]
    exact g'
  | a :: l, i + 1, j, h, t, q, e, g => by
    show (sDc K L h a ++ aSl K L _ l)[(sDc K L h a ++ aSl K L _ (l.take i)).length + j]? = some q
    rw [List.length_append, Nat.add_assoc, app_at rfl]
    refine aSl_at l i j _ t q e ?_
    have e2 : h + ((kHd K L ((a :: l).take (i + 1)) : Nat) : Int) = h + ((if K a = 6 then 1 else tNh K L false (0, a) : Nat) : Int) + (kHd K L (l.take i) : Int) := by
      show h + (((if K a = 6 then 1 else tNh K L false (0, a)) + kHd K L (l.take i) : Nat) : Int) = _
      omega
    rw [← e2]
    exact g
theorem dcC_at : ∀ (l : List Int) (i : Nat) (t lo hi : Int), dcC K L lo hi l → l[i]? = some t → lo ≤ t ∧ (K t = 6 → (p_fn K L false (0, t)).1 = 0 ∧ (p_fn K L false (0, t)).2 ≤ hi) ∧ (¬ K t = 6 → (p_ty K L false (0, t)).1 = 0 ∧ (p_ty K L false (0, t)).2 ≤ hi)
  | [], i, t, _, _, _, h => by cases h
  | a :: l, 0, t, lo, hi, hq, h => by
    have e : a = t := by simpa using h
    subst e
    obtain ⟨h1, h2⟩ := hq
    have hs := srt_al (K := K) (L := L) l
    refine ⟨h1, fun h6 => ?_, fun h6 => ?_⟩
    · rw [if_pos h6] at h2
      exact ⟨h2.1, srtQ_le (hs _ _ 0 h2.2)⟩
    · rw [if_neg h6] at h2
      exact ⟨h2.1, srtQ_le (hs _ _ 0 h2.2)⟩
  | a :: l, i + 1, t, lo, hi, hq, h => by
    obtain ⟨h1, h2⟩ := hq
    by_cases h6 : K a = 6
    · rw [if_pos h6] at h2
      obtain ⟨a1, a2, a3, a4, a5⟩ := fn_fw h2.1
      have b := f7_fw a1
      have b8 := b.2.2.2.2.2.2.2.2.1
      have b7 := (hd_fw b.2.2.2.2.2.2.2.1).2
      have b6 := b.2.2.2.2.2.2.1
      have hle : a ≤ (p_fn K L false (0, a)).2 := by
        have s1 := srtQ_le (srt_fn (h := 0) a1)
        dsimp only at s1
        omega
      obtain ⟨c1, c2, c3⟩ := dcC_at l i t _ _ h2.2 h
      exact ⟨by omega, c2, c3⟩
    · rw [if_neg h6] at h2
      have hle : a ≤ (p_ty K L false (0, a)).2 := by
        have s1 := srtQ_le (srt_ty (h := 0) h2.1)
        dsimp only at s1
        omega
      obtain ⟨c1, c2, c3⟩ := dcC_at l i t _ _ h2.2 h
      exact ⟨by omega, c2, c3⟩
theorem hsL_at : ∀ (l : List Int) (i j : Nat) (h q : Int) (x : Int × Int × Int × Int), l[i]? = some q → (hSlt K L (h + (i : Int)) (0, q + 1))[j]? = some x → (hsL K L h l)[(hsL K L h (l.take i)).length + j]? = some x
  | [], i, j, h, q, x, e, _ => by cases e
  | a :: l, 0, j, h, q, x, e, g => by
    have e' : a = q := by simpa using e
    rw [show h + ((0 : Nat) : Int) = h by omega] at g
    have hj := (List.getElem?_eq_some_iff.mp g).1
    show (hSlt K L h (0, a + 1) ++ hsL K L (h + 1) l)[0 + j]? = some x
    rw [e', Nat.zero_add, List.getElem?_append_left hj]
    exact g
  | a :: l, i + 1, j, h, q, x, e, g => by
    show (hSlt K L h (0, a + 1) ++ hsL K L (h + 1) l)[(hSlt K L h (0, a + 1) ++ hsL K L (h + 1) (l.take i)).length + j]? = some x
    rw [List.length_append, Nat.add_assoc, app_at rfl]
    refine hsL_at l i j (h + 1) q x e ?_
    rw [show h + 1 + (i : Int) = h + ((i + 1 : Nat) : Int) by omega]
    exact g
end WIX
/-! ===== the class's tables by those numbers ===== -/
/-- head h has its name at token q, its slots from b on -/
def HDs (K L : Int → Int) (P : Nat) (s : zS) (Sl : List (Int × Int × Int × Int)) (h b : Nat) (q : Int) : Prop := SGat s P h q b ((h_f K L (0, q + 1)).length : Int) ((h_v K L (0, q + 1)).length : Int) ∧ ∀ (j : Nat) x, (hSlt K L (h : Int) (0, q + 1))[j]? = some x → Sl[b + j]? = some x
section WIY
variable {K L : Int → Int} {lo hi m : Int} {P : Nat} {s : zS} {Ls : List Int}
theorem SGhs_at : ∀ (l : List Int) (h i : Nat) (b q : Int), SGhs K L s P h b l → l[i]? = some q → SGat s P (h + i) q (b + ((hsL K L (h : Int) (l.take i)).length : Int)) ((h_f K L (0, q + 1)).length : Int) ((h_v K L (0, q + 1)).length : Int)
  | [], h, i, b, q, _, e => by cases e
  | a :: l, h, 0, b, q, g, e => by
    have e' : a = q := by simpa using e
    rw [← e']
    have : b + ((hsL K L (h : Int) ((a :: l).take 0)).length : Int) = b := by
      show b + ((0 : Nat) : Int) = b
      omega
    rw [this]
    exact g.1
  | a :: l, h, i + 1, b, q, g, e => by
    have := SGhs_at l (h + 1) i _ q g.2 e
    have e2 : b + ((hSlt K L (h : Int) (0, a + 1)).length : Int) + ((hsL K L ((h + 1 : Nat) : Int) (l.take i)).length : Int) = b + ((hsL K L (h : Int) ((a :: l).take (i + 1))).length : Int) := by
      show _ = b + ((hSlt K L (h : Int) (0, a + 1) ++ hsL K L ((h : Int) + 1) (l.take i)).length : Int)
      rw [List.length_append]
      have e3 : ((h + 1 : Nat) : Int) = (h : Int) + 1 := by omega
      rw [e3]
      omega
    rw [e2, show h + 1 + i = h + (i + 1) by omega] at this
    exact this
theorem db_hd (hD : dcC K L lo hi Ls) (hA : ALz K L P s m Ls) {h : Nat} {q : Int} (hq : (hdL K L Ls)[h]? = some q) : ∃ b : Nat, HDs K L P s (aSl K L 0 Ls) h b q := by
  obtain ⟨i, j, t, h1, h2, h3⟩ := hdL_inv Ls h q hq
  obtain ⟨a1, a2⟩ := hA i t h1
  obtain ⟨-, d2, d3⟩ := dcC_at Ls i t lo hi hD h1
  have zero : ∀ x : Nat, (0 : Int) + (x : Int) = (x : Int) := fun x => by omega
  unfold dHd at h2
  by_cases h6 : K t = 6
  · rw [if_pos h6] at h2
    obtain ⟨b1, -⟩ := a1 h6
    obtain ⟨f1, f2, f3, f4, f5, f6, f7, f8, f9, f10⟩ := f7_fw (fn_fw (d2 h6).1).1
    have hj : j = 0 := by
      have := (List.getElem?_eq_some_iff.mp h2).1
      simp only [List.length_cons, List.length_nil] at this
      omega
    subst hj
    have e : (f_5 K L false (0, t)).2 = q := by simpa using h2
    have e6 : f_6 K L false (0, t) = (0, q + 1) := by
      rw [f7, ← e, f6]
      show ((0 : Int), (f_4 K L false (0, t)).2 + 2) = (0, (f_4 K L false (0, t)).2 + 1 + 1)
      rw [show (f_4 K L false (0, t)).2 + 2 = (f_4 K L false (0, t)).2 + 1 + 1 by omega]
    rw [e6, e] at b1
    refine ⟨(aSl K L 0 (Ls.take i)).length + 1 + (fPa K L false (0, t)).length, ?_, fun k x hx => ?_⟩
    · rw [h3, Nat.add_zero]
      have : (((aSl K L 0 (Ls.take i)).length + 1 + (fPa K L false (0, t)).length : Nat) : Int) = ((aSl K L 0 (Ls.take i)).length : Int) + 1 + ((fPa K L false (0, t)).length : Int) := by omega
      rw [this]
      exact b1
    · have hs := aSl_at (K := K) (L := L) Ls i (1 + (fPa K L false (0, t)).length + k) 0 t x h1 ?_
      · rw [show (aSl K L 0 (Ls.take i)).length + 1 + (fPa K L false (0, t)).length + k = (aSl K L 0 (Ls.take i)).length + (1 + (fPa K L false (0, t)).length + k) by omega]
        exact hs
      · rw [zero]
        unfold sDc fSlt
        rw [if_pos h6, show 1 + (fPa K L false (0, t)).length + k = ((fPa K L false (0, t)).length + k) + 1 by omega, List.getElem?_cons_succ, app_at (by unfold prS; rw [List.length_map]), e6]
        rw [h3, Nat.add_zero] at hx
        exact hx
  · rw [if_neg h6] at h2
    by_cases hst : tSt K L false (0, t) = true
    · rw [if_pos hst] at h2
      cases h2
    · rw [if_neg hst] at h2
      obtain ⟨b1, -⟩ := a2 h6
      have b1 := SGhs_at _ _ j _ q (b1 (by cases hh : tSt K L false (0, t) with | false => rfl | true => exact absurd hh hst)) h2
      refine ⟨(aSl K L 0 (Ls.take i)).length + (tFo K L false (0, t)).length + (hsL K L ((kHd K L (Ls.take i) : Nat) : Int) ((tMe K L false (0, t)).take j)).length, ?_, fun k x hx => ?_⟩
      · rw [h3]
        have : (((aSl K L 0 (Ls.take i)).length + (tFo K L false (0, t)).length + (hsL K L ((kHd K L (Ls.take i) : Nat) : Int) ((tMe K L false (0, t)).take j)).length : Nat) : Int) = ((aSl K L 0 (Ls.take i)).length : Int) + ((tFo K L false (0, t)).length : Int) + ((hsL K L ((kHd K L (Ls.take i) : Nat) : Int) ((tMe K L false (0, t)).take j)).length : Int) := by omega
        rw [this]
        exact b1
      · have hs := aSl_at (K := K) (L := L) Ls i ((tFo K L false (0, t)).length + ((hsL K L ((kHd K L (Ls.take i) : Nat) : Int) ((tMe K L false (0, t)).take j)).length + k)) 0 t x h1 ?_
        · rw [show (aSl K L 0 (Ls.take i)).length + (tFo K L false (0, t)).length + (hsL K L ((kHd K L (Ls.take i) : Nat) : Int) ((tMe K L false (0, t)).take j)).length + k = (aSl K L 0 (Ls.take i)).length + ((tFo K L false (0, t)).length + ((hsL K L ((kHd K L (Ls.take i) : Nat) : Int) ((tMe K L false (0, t)).take j)).length + k)) by omega]
          exact hs
        · rw [zero]
          unfold sDc tSlt
          rw [if_neg h6, if_neg hst, app_at nmS_len]
          refine hsL_at _ j k _ q x h2 ?_
          rw [h3] at hx
          have : ((kHd K L (Ls.take i) + j : Nat) : Int) = ((kHd K L (Ls.take i) : Nat) : Int) + (j : Int) := by omega
          rw [this] at hx
          exact hx
end WIY
