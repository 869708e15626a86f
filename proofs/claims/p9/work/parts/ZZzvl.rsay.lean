/-! ===== the reference: print, words and TYPES ===== -/
theorem Par_tot {d d' i : Nat} {vs : List Value} {s : yS} {P : Option Value → yS → Prop} (h : Tot d i vs s P) : Par d' i vs s P := by
  obtain ⟨v, s', h1, h0, h2⟩ := h
  intro pre post res hp hr
  have e1 := ycx_mono (Nat.le_add_right d d') i vs _ _ (h2 pre post hp)
  have e2 := ycx_mono (Nat.le_add_left d' d) i vs _ _ hr
  rw [e1] at e2
  exact ⟨v, s', (Option.some.inj e2).symm, h0, h1⟩
/-- the signs in OUT -/
def OUr (s : yS) (l : List Int) : Prop := (s.1 120).toInt = (l.length : Int) ∧ l.length ≤ 2000 ∧ ∀ (i : Nat) (x : Int), l[i]? = some x → (s.2.1 284 i).toInt = x
/-- the sign of a number -/
def sgo (a : Int) : Int := if 27 ≤ a then (if 53 ≤ a then 48 + a - 53 else 65 + a - 27) else 97 + a - 1
/-- digits, the first the highest -/
def num : List Int → Int
  | [] => 0
  | x :: r => x * p64 r.length + num r
/-- a word's two numbers -/
def ecl (w : List Int) : Int64 × Int64 := (Int64.ofInt (num ((w.take 9).map rkc)), Int64.ofInt (num ((w.drop 9).map rkc)))
def wOK (w : List Int) : Prop := w.length ≤ 12 ∧ ∀ x ∈ w, isLt x = true ∨ isDg x = true
/-- names of types: their words' numbers -/
def NMr (b : Nat) (nT : Int) (pw : Int → List Int) (s : yS) : Prop := (s.1 29).toInt = (b : Int) ∧ ∀ c : Int, 0 ≤ c → c < nT → ∃ tk k : Nat, (s.2.1 234 (24 * b + c.toNat)).toInt = (tk : Int) ∧ (s.2.1 217 tk).toInt = (k : Int) ∧ (s.2.2 218 (2100 * b + k), s.2.2 219 (2100 * b + k)) = ecl (pw c) ∧ wOK (pw c) ∧ (4002 * b ≤ tk ∧ tk < 4002 * b + 4002) ∧ k < 2100
section ZYE
variable {ar : Int → Int} {pw : Int → List Int} {d b : Nat} {s u : yS} {a0 a1 c : Int32} {t w D : List Int} {x nT : Int}
theorem x_261 (hO : OUr s (ouT t)) (hc : c.toInt = x) : Par d 261 [.ref 213, .int c] s (fun v s' => v = none ∧ eqx [120] [284] [] s s' ∧ OUr s' (ouT (t ++ [x]))) := by
  cases d with
  | zero => exact Par_0
  | succ d =>
    refine pb_261 ?_
    obtain ⟨h1, h2, h3⟩ := hO
    have hl := ouT_len (t := t)
    unfold ub_261_0 ub_261_16
    refine ⟨fun w => ⟨rfl, eqx_rf, ?_⟩, fun w _ s1 hs1 _ x2 hx2 s3 hs3 => ⟨rfl, ?_, ?_⟩⟩
    · rw [ouT_fu (by omega)]
      exact ⟨h1, h2, h3⟩
    · rw [hs3, hs1]
      exact eqx_sf (eqx_sa eqx_rf (by decide)) (by decide)
    · have e1 : ouT t = t := List.take_of_length_le (by omega)
      have e2 : ouT (t ++ [x]) = t ++ [x] := List.take_of_length_le (by rw [List.length_append, List.length_singleton]; omega)
      rw [e1] at h1 h2 h3
      rw [e2]
      have q1 : s1.1 120 = s.1 120 := by rw [hs1]; rfl
      rw [q1] at hx2
      have q2 : ∀ i, s3.2.1 284 i = if i = t.length then c else s.2.1 284 i := fun i => by
        rw [hs3, sf_2, hs1, sa_21, show (s.1 120).toInt.toNat = t.length by omega]
        by_cases e : i = t.length
        · rw [if_pos ⟨rfl, e⟩, if_pos e]
        · rw [if_neg (fun q => e q.2), if_neg e]
      refine ⟨by rw [hs3, sf_1, if_pos rfl, hx2, h1, List.length_append, List.length_singleton]; omega, by rw [List.length_append, List.length_singleton]; omega, fun i y hy => ?_⟩
      rw [q2]
      by_cases e : i = t.length
      · rw [if_pos e, hc]
        rw [e, List.getElem?_concat_length] at hy
        exact Option.some.inj hy
      · rw [if_neg e]
        have hi := (List.getElem?_eq_some_iff.mp hy).1
        rw [List.length_append, List.length_singleton] at hi
        rw [List.getElem?_append_left (by omega)] at hy
        exact h3 i y hy
theorem x_262 : Par d 262 [.int a0] s (fun v s' => s' = s ∧ ∃ r : Int32, v = some (.int r) ∧ r.toInt = sgo a0.toInt) := by
  cases d with
  | zero => exact Par_0
  | succ d =>
    refine pb_262 ?_
    unfold ub_262_0 ub_262_23 sgo
    refine ⟨fun w => ⟨fun w1 _ x1 h1 _ x2 h2 => ⟨rfl, x2, rfl, ?_⟩, fun w1 _ x1 h1 _ x2 h2 => ⟨rfl, x2, rfl, ?_⟩⟩, fun w _ x1 h1 _ x2 h2 => ⟨rfl, x2, rfl, ?_⟩⟩
    · rw [if_pos w, if_pos w1]
      omega
    · rw [if_pos w, if_neg w1]
      omega
    · rw [if_neg w]
      omega
theorem sgo_rk (h : isLt x = true ∨ isDg x = true) : sgo (rkc x) = x := by
  unfold isLt isDg at h
  simp at h
  unfold sgo rkc
  by_cases h1 : x < 97
  · by_cases h2 : x < 65
    · rw [if_pos h1, if_pos h2, if_pos (by omega), if_pos (by omega)]
      omega
    · rw [if_pos h1, if_neg h2, if_pos (by omega), if_neg (by omega)]
      omega
  · rw [if_neg h1, if_neg (by omega)]
    omega
theorem p64_mo : ∀ {i j : Nat}, i ≤ j → p64 i ≤ p64 j
  | i, 0, h => by
    obtain rfl : i = 0 := by omega
    exact Int.le_refl _
  | i, j + 1, h => by
    by_cases e : i = j + 1
    · rw [e]
      exact Int.le_refl _
    · have h1 := p64_mo (i := i) (j := j) (by omega)
      have h2 := p64_pos j
      show p64 i ≤ 64 * p64 j
      omega
theorem num_b : ∀ {D : List Int}, (∀ x ∈ D, 1 ≤ x ∧ x ≤ 62) → 0 ≤ num D ∧ num D < p64 D.length ∧ (¬ D = [] → p64 (D.length - 1) ≤ num D)
  | [], _ => ⟨Int.le_refl _, by decide, fun h => absurd rfl h⟩
  | x :: r, h => by
    obtain ⟨h1, h2, -⟩ := num_b (D := r) (fun y hy => h y (List.mem_cons_of_mem _ hy))
    have hx := h x List.mem_cons_self
    have hP := p64_pos r.length
    have e1 : (x - 1) * p64 r.length = x * p64 r.length - 1 * p64 r.length := Int.sub_mul _ _ _
    have e2 : (62 - x) * p64 r.length = 62 * p64 r.length - x * p64 r.length := Int.sub_mul _ _ _
    have f1 : 0 ≤ (x - 1) * p64 r.length := Int.mul_nonneg (by omega) (by omega)
    have f2 : 0 ≤ (62 - x) * p64 r.length := Int.mul_nonneg (by omega) (by omega)
    rw [Int.one_mul] at e1
    refine ⟨?_, ?_, fun _ => ?_⟩
    · show 0 ≤ x * p64 r.length + num r
      omega
    · show x * p64 r.length + num r < 64 * p64 r.length
      omega
    · show p64 r.length ≤ x * p64 r.length + num r
      omega
theorem num_app : ∀ {D : List Int}, num (D ++ [x]) = 64 * num D + x
  | [] => by
    show x * 1 + 0 = 64 * 0 + x
    omega
  | y :: D => by
    have ih := num_app (D := D)
    show y * p64 (D ++ [x]).length + num (D ++ [x]) = 64 * (y * p64 D.length + num D) + x
    rw [ih, List.length_append, List.length_singleton]
    have e : y * p64 (D.length + 1) = 64 * (y * p64 D.length) := by
      show y * (64 * p64 D.length) = _
      rw [Int.mul_left_comm]
    rw [e]
    omega
theorem wvl_num {f : Nat → Int} : ∀ l, wvl f l = num ((List.range l).map f)
  | 0 => rfl
  | l + 1 => by
    show 64 * wvl f l + f l = _
    rw [wvl_num l, List.range_succ, List.map_append, List.map_singleton, num_app]
theorem num_r (h : ∀ x ∈ w, isLt x = true ∨ isDg x = true) : ∀ x ∈ w.map rkc, 1 ≤ x ∧ x ≤ 62 := fun x hx => by
  obtain ⟨y, hy, rfl⟩ := List.mem_map.mp hx
  exact rkc_in (h y hy)
theorem num_q {P n : Int} (h0 : 0 ≤ n) (h1 : n < P) : (x * P + n) / P = x ∧ (x * P + n) % P = n := by
  have e : (x * P + n) / P = x := by
    rw [Int.add_comm, Int.add_mul_ediv_right _ _ (by omega), Int.ediv_eq_zero_of_lt h0 h1, Int.zero_add]
  refine ⟨e, ?_⟩
  rw [Int.emod_def, e, Int.mul_comm]
  omega
set_option maxHeartbeats 2000000 in
/-- sayPart -/
theorem s_263w {a : Int64} (hs : sOK s) (hw : ∀ x ∈ w, isLt x = true ∨ isDg x = true) (h9 : w.length ≤ 9) (ha : a.toInt = num (w.map rkc)) (hO : OUr s (ouT t)) : Tot (d + 2) 263 [.ref 213, .long a] s (fun v s' => v = none ∧ SAy s s' ∧ OUr s' (ouT (t ++ w))) := by
  obtain ⟨h0, hlt, hge⟩ := num_b (num_r hw)
  rw [List.length_map] at hlt hge
  rw [← ha] at h0 hlt hge
  have hle := p64_le h9
  have e64 : (64 : Int64).toInt = 64 := by decide
  refine t_263 ?_
  unfold w_263_0
  refine ⟨fun a1 a3 f => a1 = a ∧ f = s ∧ ∃ k : Nat, k ≤ 9 ∧ a3.toInt = p64 k ∧ (k = 0 ∨ p64 k ≤ a.toInt), fun _ a3 _ => (1152921504606846976 - a3.toInt).toNat, ⟨rfl, rfl, 0, by omega, by decide, Or.inl rfl⟩, ?_⟩
  rintro a1 a3 f ⟨e1, e2, k, k1, k2, k3⟩
  have e1 := e1.symm
  have e2 := e2.symm
  subst e1 e2
  have kp := p64_pos k
  have kl := p64_le k1
  have hd : (a / 64).toInt = a.toInt / 64 := by rw [l_div h0 (by rw [e64]; decide), e64]
  unfold w_263_2
  refine ⟨fun hend => ?_, fun hmore => ?_⟩
  · have hend := lgc.2.mp hend
    rw [hd] at hend
    have hk : ∀ (c : Int) (r : List Int), w = c :: r → k = r.length := fun c r e => by
      have g1 : p64 r.length ≤ a.toInt := by
        have := hge (by rw [e]; intro q; cases q)
        rw [e] at this
        exact this
      have g2 : a.toInt < p64 (r.length + 1) := by
        rw [e] at hlt
        exact hlt
      rcases Nat.lt_trichotomy k r.length with q | q | q
      · have m := p64_mo (i := k + 1) (j := r.length) (by omega)
        have e : p64 (k + 1) = 64 * p64 k := rfl
        omega
      · exact q
      · have m := p64_mo (i := r.length + 1) (j := k) (by omega)
        rcases k3 with k3 | k3
        · omega
        · omega
    clear k3
    refine ⟨fun b1 b3 b5 f => b1 = a ∧ SAy s f ∧ ∃ w1 w2 : List Int, w = w1 ++ w2 ∧ b5.toInt = num (w2.map rkc) ∧ OUr f (ouT (t ++ w1)) ∧ ((w2 = [] ∧ (b3.toInt = 0 ∨ w = [])) ∨ ∃ (c : Int) (r : List Int), w2 = c :: r ∧ b3.toInt = p64 r.length), fun _ b3 _ _ => b3.toInt.toNat, ⟨rfl, SAy_rf hs, [], w, rfl, ha, by rw [List.append_nil]; exact hO, ?_⟩, ?_⟩
    · cases hq : w with
      | nil => exact Or.inl ⟨rfl, Or.inr rfl⟩
      | cons c r => exact Or.inr ⟨c, r, rfl, by rw [k2, hk c r hq]⟩
    rintro b1 b3 b5 f ⟨e1, fS, w1, w2, g1, g2, g3, g4⟩
    have e1 := e1.symm
    subst e1
    have emp : w = [] → a.toInt = 0 := fun e => by
      rw [ha, e]
      rfl
    unfold w_263_15 w_263_39
    rw [lgc.1, lgc.1, show (0 : Int64).toInt = 0 by decide]
    refine ⟨fun hz => ⟨rfl, fS, ?_⟩, fun hz => ⟨fun hz2 => ⟨rfl, fS, ?_⟩, fun hz2 => ?_⟩⟩
    · rcases g4 with ⟨rfl, -⟩ | ⟨c, r, -, q⟩
      · rw [List.append_nil] at g1
        rw [g1]
        exact g3
      · have := p64_pos r.length
        omega
    · have e : w = [] := by
        by_cases e : w = []
        · exact e
        · have h9 := hge (fun q => e (List.map_eq_nil_iff.mp q))
          have := p64_pos (w.length - 1)
          omega
      rw [e] at g1
      obtain ⟨rfl, -⟩ := List.append_eq_nil_iff.mp g1.symm
      rw [e]
      exact g3
    · rcases g4 with ⟨-, q | q⟩ | ⟨c, r, rfl, q⟩
      · omega
      · have := emp q
        omega
      have hP := p64_pos r.length
      have hcw : ∀ x ∈ c :: r, isLt x = true ∨ isDg x = true := fun x hx => hw x (by rw [g1]; exact List.mem_append_right _ hx)
      obtain ⟨n0, n1, -⟩ := num_b (num_r (fun x hx => hcw x (List.mem_cons_of_mem _ hx)))
      rw [List.length_map] at n1
      have e5 : b5.toInt = rkc c * p64 r.length + num (r.map rkc) := by
        rw [g2]
        show rkc c * p64 (r.map rkc).length + num (r.map rkc) = _
        rw [List.length_map]
      obtain ⟨y1, y2⟩ := num_q (x := rkc c) n0 n1
      have hrk := rkc_in (hcw c List.mem_cons_self)
      have b5p : 0 ≤ b5.toInt := by
        have : 0 ≤ rkc c * p64 r.length := Int.mul_nonneg (by omega) (by omega)
        omega
      have hb0 : ¬ b3 = 0 := fun w => hz (by rw [w]; decide)
      have q1 := l_div (a := b5) (b := b3) b5p (by omega)
      rw [q, e5, y1] at q1
      refine ⟨hb0, ?_⟩
      refine Tot.imp (Tot.mono (by omega) (Tot_par (s_262 (d := 0) (by rw [l32 (by omega)]; omega)) (Nat.le_refl _) x_262)) ?_
      rintro v f1 ⟨-, e, x3, rfl, hx3⟩
      have e := e.symm
      subst e
      rw [l32 (by omega), q1, sgo_rk (hcw c List.mem_cons_self)] at hx3
      refine ⟨x3, rfl, ?_⟩
      refine Tot.imp (Tot.mono (by omega) (Tot_par (s_261' (d := 0) (s := f) fS.2.1) (Nat.le_refl _) (x_261 g3 hx3))) ?_
      rintro v f2 ⟨⟨rfl, uS, -⟩, -, -, uO⟩
      have r1 := l_rem (a := b5) (b := b3) b5p (by omega)
      rw [q, e5, y2] at r1
      have r4 : (b3 / 64).toInt = b3.toInt / 64 := by rw [l_div (by omega) (by rw [e64]; decide), e64]
      refine ⟨rfl, hb0, ⟨rfl, SAy_tr fS uS, w1 ++ [c], r, by rw [g1, List.append_assoc]; rfl, r1, by rw [← List.append_assoc]; exact uO, ?_⟩, by show (b3 / 64).toInt.toNat < b3.toInt.toNat; omega⟩
      cases r with
      | nil =>
        have q : b3.toInt = 1 := q
        exact Or.inl ⟨rfl, Or.inl (by omega)⟩
      | cons c' r' =>
        have q : b3.toInt = 64 * p64 r'.length := q
        exact Or.inr ⟨c', r', rfl, by omega⟩
  · have hmore : a3.toInt ≤ a.toInt / 64 := by
      by_cases w : a3.toInt ≤ a.toInt / 64
      · exact w
      · exact absurd (lgc.2.mpr (by rw [hd]; omega)) hmore
    have hk : k ≤ 8 := by
      by_cases w : k ≤ 8
      · exact w
      · have e9 : k = 9 := by omega
        have : p64 9 = 18014398509481984 := by decide
        rw [e9] at k2
        omega
    have hm : (a3 * 64).toInt = 64 * a3.toInt := by
      rw [Int64.toInt_mul, e64, l_bm (by omega)]
      omega
    have e : p64 (k + 1) = 64 * p64 k := rfl
    refine ⟨⟨rfl, rfl, k + 1, by omega, by omega, Or.inr (by omega)⟩, ?_⟩
    show (1152921504606846976 - (a3 * 64).toInt).toNat < (1152921504606846976 - a3.toInt).toNat
    omega
theorem num_64 (hw : ∀ x ∈ w, isLt x = true ∨ isDg x = true) (h9 : w.length ≤ 9) : (Int64.ofInt (num (w.map rkc))).toInt = num (w.map rkc) := by
  obtain ⟨h0, hlt, -⟩ := num_b (num_r hw)
  rw [List.length_map] at hlt
  have := p64_le h9
  exact Int64.toInt_ofInt_of_le (by omega) (by omega)
/-- sayWord -/
theorem x_264 {k : Nat} (hs : sOK s) (h29 : (s.1 29).toInt = (b : Int)) (ha : a1.toInt = (k : Int)) (hg : (s.2.2 218 (2100 * b + k), s.2.2 219 (2100 * b + k)) = ecl w) (hw : wOK w) (hO : OUr s (ouT t)) : Par d 264 [.ref 213, .int a1] s (fun v s' => v = none ∧ SAy s s' ∧ OUr s' (ouT (t ++ w))) := by
  cases d with
  | zero => exact Par_0
  | succ d =>
    obtain ⟨w12, wch⟩ := hw
    have g1 : s.2.2 218 (2100 * b + k) = Int64.ofInt (num ((w.take 9).map rkc)) := congrArg Prod.fst hg
    have g2 : s.2.2 219 (2100 * b + k) = Int64.ofInt (num ((w.drop 9).map rkc)) := congrArg Prod.snd hg
    have c1 : ∀ x ∈ w.take 9, isLt x = true ∨ isDg x = true := fun x hx => wch x (List.mem_of_mem_take hx)
    have c2 : ∀ x ∈ w.drop 9, isLt x = true ∨ isDg x = true := fun x hx => wch x (List.mem_of_mem_drop hx)
    have l1 : (w.take 9).length ≤ 9 := by rw [List.length_take]; omega
    have l2 : (w.drop 9).length ≤ 9 := by rw [List.length_drop]; omega
    refine pb_264 ?_
    unfold ub_264_0
    rw [h29]
    intro _ x1 hx1 _ x2 hx2 _
    rw [show x2.toInt.toNat = 2100 * b + k by omega, g1]
    refine Par.imp (Par_tot (d := 2) (s_263w (d := 0) (w := w.take 9) hs c1 l1 (num_64 c1 l1) hO)) ?_
    rintro v s3 ⟨rfl, S3, O3⟩
    have e29 : s3.1 29 = s.1 29 := S3.1.1 29 (by decide)
    have e19 : s3.2.2 219 = s.2.2 219 := S3.1.2.2 219 (by decide)
    rw [e29, e19, h29]
    refine ⟨rfl, ?_⟩
    intro _ x5 hx5 _ x6 hx6 _
    rw [show x6.toInt.toNat = 2100 * b + k by omega, g2]
    refine Par.imp (Par_tot (d := 2) (s_263w (d := 0) (w := w.drop 9) S3.2.1 c2 l2 (num_64 c2 l2) O3)) ?_
    rintro v s7 ⟨rfl, S7, O7⟩
    refine ⟨rfl, rfl, SAy_tr S3 S7, ?_⟩
    rw [List.append_assoc, List.take_append_drop] at O7
    exact O7
theorem NMr_f {ks rs : List Nat} (h : NMr b nT pw s) (hx : eqx ks rs [] s u) (h1 : 29 ∉ ks) (h2 : 234 ∉ rs) (h3 : 217 ∉ rs) : NMr b nT pw u := by
  refine ⟨by rw [hx.1 29 h1]; exact h.1, fun c c0 c1 => ?_⟩
  rw [hx.2.1 234 h2, hx.2.1 217 h3, hx.2.2 218 (by decide), hx.2.2 219 (by decide)]
  exact h.2 c c0 c1
theorem txS_sn : ∀ (L : List (List Int)) (X : List Int), ¬ L = [] → txS ar pw (L ++ [X]) = txS ar pw L ++ 44 :: txT ar pw X
  | [], _, h => absurd rfl h
  | [Y], X, _ => rfl
  | Y :: Z :: R, X, _ => by
    have ih := txS_sn (Z :: R) X (by intro q; cases q)
    show txT ar pw Y ++ 44 :: txS ar pw (Z :: R ++ [X]) = (txT ar pw Y ++ 44 :: txS ar pw (Z :: R)) ++ 44 :: txT ar pw X
    rw [ih, List.append_assoc]
    rfl
theorem fl_at {As : List (List Int)} {j i : Nat} {x : Int} (hj : j < As.length) (h : As[j][i]? = some x) : As.flatten[(As.take j).flatten.length + i]? = some x := by
  have e : As.flatten = (As.take j).flatten ++ (As[j] ++ (As.drop (j + 1)).flatten) := by
    conv => lhs; rw [← List.take_append_drop j As]
    rw [List.flatten_append, List.drop_eq_getElem_cons hj, List.flatten_cons]
  have hi := (List.getElem?_eq_some_iff.mp h).1
  rw [e, List.getElem?_append_right (by omega), show (As.take j).flatten.length + i - (As.take j).flatten.length = i by omega, List.getElem?_append_left hi]
  exact h
set_option maxHeartbeats 2000000 in
/-- sayType -/
theorem x_265 (h6 : ∀ c, 0 ≤ ar c ∧ ar c ≤ 7) : ∀ (d : Nat) (A : List Int) (p : Nat) (s : yS) (a : Int32) (t : List Int), isR ar 1 A → (∀ c ∈ A, 0 ≤ c ∧ c < nT) → (∀ (i : Nat) (c : Int), A[i]? = some c → (s.2.1 285 (p + i)).toInt = 8 * c + ar c) → a.toInt = (p : Int) → NMr b nT pw s → sOK s → OUr s (ouT t) → Par d 265 [.ref 213, .int a] s (fun v s' => ∃ x : Int32, v = some (.int x) ∧ x.toInt = (p : Int) + (A.length : Int) ∧ SAy s s' ∧ OUr s' (ouT (t ++ txT ar pw A)))
  | 0, _, _, _, _, _, _, _, _, _, _, _, _ => Par_0
  | d + 1, [], _, _, _, _, hR, _, _, _, _, _, _ => by
    have hR : (1 : Int) = 0 := hR
    omega
  | d + 1, c :: l, p, s, a, t, hR, hc, hr, ha, hN, hs, hO => by
    obtain ⟨p1, p2, p3⟩ := argT_ok h6 hR
    obtain ⟨As, hAs⟩ : ∃ As, As = argT ar (c :: l) := ⟨_, rfl⟩
    have hT := txT_c (pw := pw) h6 hR
    rw [← hAs] at p1 p2 p3 hT
    have hc0 := hc c List.mem_cons_self
    have r0 := hr 0 c rfl
    rw [Nat.add_zero] at r0
    have hac := h6 c
    refine pb_265 ?_
    unfold ub_265_0
    intro _
    rw [show a.toInt.toNat = p by omega]
    refine Par.imp x_185 ?_
    rintro v s1 ⟨e, x3, rfl, hx3⟩
    have e := e.symm
    subst e
    rw [r0] at hx3
    refine ⟨x3, rfl, ?_⟩
    rw [r0]
    intro _ _ x4 hx4 _ x5 hx5 _ x6 hx6 _ _
    obtain ⟨n1, n2⟩ := id hN
    obtain ⟨tk, wk, q1, q2, q3, q4, -⟩ := n2 c hc0.1 hc0.2
    rw [n1] at hx5
    rw [show x6.toInt.toNat = 24 * b + c.toNat by omega, show (s.2.1 234 (24 * b + c.toNat)).toInt.toNat = tk by omega]
    refine Par.imp (x_264 hs n1 q2 q3 q4 hO) ?_
    rintro v u ⟨rfl, uS, uO⟩
    refine ⟨rfl, ?_⟩
    intro _ x9 hx9
    obtain ⟨br, hbr⟩ : ∃ br : Nat → List Int, ∀ j, br j = if j = 0 then [] else 91 :: txS ar pw (As.take j) := ⟨_, fun _ => rfl⟩
    have hNu := NMr_f hN uS.1 (by decide) (by decide) (by decide)
    unfold ubl_265_33
    refine ⟨fun z1 z2 z3 z4 z5 f => z3 = x4 ∧ SAy u f ∧ ∃ j : Nat, z5.toInt = (j : Int) ∧ j ≤ As.length ∧ z4.toInt = (p : Int) + 1 + ((As.take j).flatten.length : Int) ∧ OUr f (ouT ((t ++ pw c) ++ br j)), ⟨rfl, SAy_rf uS.2.1, 0, by decide, Nat.zero_le _, ?_, ?_⟩, ?_⟩
    · rw [hx9, ha]
      show (p : Int) + 1 = (p : Int) + 1 + 0
      omega
    · rw [hbr, if_pos rfl, List.append_nil]
      exact uO
    rintro z1 z2 z3 z4 z5 f ⟨e3, fS, j, j1, j2, j3, fO⟩
    have e3 := e3.symm
    subst e3
    have ex4 : x4.toInt = (As.length : Int) := by omega
    have step : ∀ (c' : Int32), j < As.length → c'.toInt = (if j = 0 then 91 else 44) → Par d 261 [.ref 213, .int c'] f (fun v2 s1 => v2 = none ∧ (Par d 265 [.ref 213, .int z4] s1 (fun v4 s3 => ∃ x5, v4 = some (.int x5) ∧ (((-2147483648 ≤ z5.toInt + 1 ∧ z5.toInt + 1 ≤ 2147483647) → ∀ x6 : Int32, x6.toInt = z5.toInt + 1 → (x4 = x4 ∧ SAy u s3 ∧ ∃ j : Nat, x6.toInt = (j : Int) ∧ j ≤ As.length ∧ x5.toInt = (p : Int) + 1 + ((As.take j).flatten.length : Int) ∧ OUr s3 (ouT ((t ++ pw c) ++ br j)))))))) := by
      intro c' hj hc'
      refine Par.imp (Par_and (Par_tot (d := 1) (s_261' (d := 0) (s := f) fS.2.1)) (x_261 fO hc')) ?_
      rintro v g ⟨⟨rfl, gS, -⟩, -, -, gO⟩
      refine ⟨rfl, ?_⟩
      have hX : As[j] ∈ As := List.getElem_mem hj
      have fSg := SAy_tr fS gS
      have e285 : g.2.1 285 = s.2.1 285 := by rw [fSg.1.2.1 285 (by decide), uS.1.2.1 285 (by decide)]
      refine Par.imp (x_265 h6 d As[j] (p + 1 + (As.take j).flatten.length) g z4 (((t ++ pw c) ++ br j) ++ [if j = 0 then 91 else 44]) (p2 _ hX) (fun c' hc' => hc c' (List.mem_cons_of_mem _ (by rw [← p1]; exact List.mem_flatten.mpr ⟨_, hX, hc'⟩))) (fun i x hx => ?_) (by omega) (NMr_f hNu fSg.1 (by decide) (by decide) (by decide)) gS.2.1 gO) ?_
      · have q := fl_at hj hx
        rw [p1] at q
        have := hr ((As.take j).flatten.length + i + 1) x q
        rw [e285, show p + 1 + (As.take j).flatten.length + i = p + ((As.take j).flatten.length + i + 1) by omega]
        exact this
      · rintro v k ⟨x5, rfl, hx5, kS, kO⟩
        refine ⟨x5, rfl, fun _ x6 hx6 => ⟨rfl, SAy_tr fSg kS, j + 1, by omega, by omega, ?_, ?_⟩⟩
        · have e : (As.take (j + 1)).flatten = (As.take j).flatten ++ As[j] := by
            rw [List.take_add_one, List.getElem?_eq_getElem hj, List.flatten_append]
            show (As.take j).flatten ++ (As[j] ++ []) = _
            rw [List.append_nil]
          rw [hx5, e, List.length_append]
          omega
        · have e : br (j + 1) = br j ++ (if j = 0 then 91 else 44) :: txT ar pw As[j] := by
            have et : As.take (j + 1) = As.take j ++ [As[j]] := by
              rw [List.take_add_one, List.getElem?_eq_getElem hj]
              rfl
            rw [hbr, hbr, if_neg (by omega), et]
            by_cases q : j = 0
            · rw [if_pos q, if_pos q]
              have et0 : As.take j = [] := by rw [q]; rfl
              rw [et0]
              rfl
            · rw [if_neg q, if_neg q, txS_sn _ _ (fun z => by
                have := congrArg List.length z
                rw [List.length_take] at this
                have : min j As.length = 0 := this
                omega)]
              rfl
          rw [e]
          rw [List.append_assoc ((t ++ pw c) ++ br j)] at kO
          rw [← List.append_assoc (t ++ pw c)]
          exact kO
    unfold ub_265_33 ub_265_42 ub_265_54
    refine ⟨fun hend => ?_, fun hmore => ⟨fun hz => step 44 (by omega) (by rw [if_neg (by omega)]; decide), fun hz => step 91 (by omega) (by rw [if_pos (by omega)]; decide)⟩⟩
    have ej : j = As.length := by omega
    rw [ej, List.take_length, p1] at j3
    have el : z4.toInt = (p : Int) + ((c :: l).length : Int) := by
      rw [j3, List.length_cons]
      omega
    refine ⟨fun h0 => ⟨z4, rfl, el, SAy_tr uS fS, ?_⟩, fun h0 => ?_⟩
    · rw [hT, if_neg (by omega), List.append_nil]
      rw [hbr, if_pos (by omega), List.append_nil] at fO
      exact fO
    · refine Par.imp (Par_and (Par_tot (d := 1) (s_261' (d := 0) (s := f) fS.2.1)) (x_261 (x := 93) fO (by decide))) ?_
      rintro v g ⟨⟨rfl, gS, -⟩, -, -, gO⟩
      refine ⟨rfl, z4, rfl, el, SAy_tr uS (SAy_tr fS gS), ?_⟩
      rw [hT, if_pos (by omega)]
      rw [hbr, if_neg (by omega), ej, List.take_length, List.append_assoc, List.append_assoc] at gO
      exact gO
end ZYE
