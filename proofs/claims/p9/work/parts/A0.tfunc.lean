/-! ===== typeFunc ===== -/
def tFK : List Nat := [8, 64, 65, 70, 71, 72, 73, 74, 76, 77, 78, 80, 81, 85]
section TFN
variable {own : Nat → Nat × Nat} {b n Wd N T F H S0 S O : Nat} {G : PG} {s : yS}
/-- between the functions: the tables stand, statics at S, opens at O -/
def TB (own : Nat → Nat × Nat) (b n W N T F H S0 : Nat) (G : PG) (S O : Nat) (s : yS) : Prop := CK own b n N T F H S0 G s ∧ Lx b n W s ∧ (0 ≤ (s.1 8).toInt ∧ (s.1 8).toInt ≤ 70000) ∧ (s.1 65).toInt = (S : Int) ∧ (s.1 85).toInt = (O : Int) ∧ S0 ≤ S ∧ 10 + 4100 * b ≤ S ∧ S ≤ 10 + 4100 * (b + 1) ∧ 60000 * b ≤ O
/-- a place for typeE: its fields set anew -/
theorem TB_TW {fo : Option Nat} {t : yS} (hB : TB own b n Wd N T F H S0 G S O s) (h2 : t.2 = s.2) (hk : ∀ k, k ∉ [64, 70, 76, 77, 78] → t.1 k = s.1 k) (h64 : (t.1 64).toInt = 100000) (h70 : (t.1 70).toInt = 0) (hP : PX b F G fo t) : TW own b n Wd N T F H S0 G fo S O 100000 0 t := by
  obtain ⟨c1, c2, c3, c4, c5, c6, c7, c8, c9⟩ := hB
  refine ⟨CK_eq c1 ⟨fun _ _ _ => ⟨by rw [h2], by rw [h2]⟩, fun x _ _ => ?_, fun p i _ _ _ => by rw [h2]⟩ (fun y _ _ _ => ⟨by rw [h2], by rw [h2]⟩) (fun j _ => by rw [h2]) (fun i _ _ => by rw [h2]) (fun i => by rw [h2]; exact c1.2.2.2.2.1 i) (fun i => by rw [h2]; exact c1.2.2.2.2.2.1 i) (by rw [hk 75 (by decide)]; exact c1.2.2.2.2.2.2.1), Lx_eq c2 (by rw [h2]) (by rw [h2]) (by rw [h2]), by rw [hk 8 (by decide)]; exact c3, hP, h64, h70, by rw [hk 65 (by decide)]; exact c4, by rw [hk 85 (by decide)]; exact c5, c6, c7, c8, c9, Nat.le_refl _⟩
  unfold SR
  rw [h2]
  exact ⟨⟨rfl, rfl, rfl, rfl, rfl, rfl, fun _ => rfl, fun _ => rfl⟩, rfl, rfl⟩
theorem s_229 {f e l h : Nat} {a1 : Int32} (hB : TB own b n Wd N T F H S0 G S O s) (hf : f < F) (h1 : a1.toInt = 60 * (b : Int) + (f : Nat)) (he : (s.2.1 258 (60 * b + f)).toInt = (e : Int)) (hE : isE b n s 11 l h e) (hl : 4002 * b ≤ l) (hh : h ≤ N) (hN : N ≤ 12006) (ho : ∀ x, l ≤ x → x < h → (own x).1 ∉ slR) (hS : S + (h - l) ≤ 10 + 4100 * (b + 1)) (hO : O + 60 * cM s l h ≤ 60000 * (b + 1)) : Tot 571 229 [.ref 213, .int a1] s (fun v s' => v = none ∧ TFr tFK b l h S 100000 0 O s s' ∧ f8 s s' ∧ (s'.1 70).toInt = 0 ∧ ∃ S' O' : Nat, (s'.1 65).toInt = (S' : Int) ∧ (s'.1 85).toInt = (O' : Int) ∧ S ≤ S' ∧ S' ≤ S + (h - l) ∧ O ≤ O' ∧ O' ≤ O + 60 * cM s l h ∧ ((s'.1 8).toInt = 0 → ∃ A, wE G H b n (scX G (some f)) (tVX G (some f)) S' O' s' 11 l h e A ∧ impl G A (ght G (gfh G f)))) := by
  obtain ⟨c1, c2, c3, c4, c5, c6, c7, c8, c9⟩ := id hB
  obtain ⟨d1, d2, d3, d4, d5, d6, d7, d8, d9, d10⟩ := id c1
  obtain ⟨hb, hn, hT24, hF60, hH, r33, r52, hA⟩ := id d1
  have g := pgA d1
  rw [d8] at g
  obtain ⟨gT', gF', -, -, -, -, g7⟩ := g
  obtain ⟨q1, q2, q3⟩ := g7 f hf
  obtain ⟨w1, w2, w3, w4⟩ := d9.2.2.2.2.2.2.1 f (by omega)
  have r57 := (hA.2.2.1 f hf).2.1
  have n57 : (s.2.1 257 (60 * b + f)).toInt = 204 * (b : Int) + (gfh G f : Int) := by rw [q2]; unfold nT; omega
  have e1 : a1.toInt.toNat = 60 * b + f := by omega
  have hlt := isE_lt hE
  refine t_229 ?_
  unfold w_229_0
  rw [e1]
  refine ⟨by omega, ?_⟩
  refine Tot.imp (Tot.mono (by omega) (s_206 (d := 0))) ?_
  rintro v s1 ⟨rfl, rfl⟩
  refine ⟨rfl, ?_⟩
  rintro s3 rfl s4 rfl
  obtain ⟨t, ht⟩ : ∃ t, t = sf (sf (sf (sf (sf s 76 (-1)) 77 (s.2.1 257 (60 * b + f))) 78 a1) 64 100000) 70 0 := ⟨_, rfl⟩
  rw [← ht]
  have t2 : t.2 = s.2 := by rw [ht]; rfl
  have tk : ∀ k, k ∉ [64, 70, 76, 77, 78] → t.1 k = s.1 k := by
    intro k hk
    rw [ht, sf_1, if_neg (fun w => hk (by rw [w]; decide)), sf_1, if_neg (fun w => hk (by rw [w]; decide)), sf_1, if_neg (fun w => hk (by rw [w]; decide)), sf_1, if_neg (fun w => hk (by rw [w]; decide)), sf_1, if_neg (fun w => hk (by rw [w]; decide))]
  have W : TW own b n Wd N T F H S0 G (some f) S O 100000 0 t := by
    refine TB_TW hB t2 tk (by rw [ht]; rfl) (by rw [ht]; rfl) ⟨by rw [ht]; rfl, hf, ?_, ?_⟩
    · rw [ht]
      exact n57
    · rw [ht]
      exact h1
  have Ft : TFr tFK b l h S 100000 0 O s t := ⟨fun k hk => tk k (fun w => hk (by clear hk; revert k; decide)), fun q i _ _ _ _ _ => by rw [t2], by rw [t2], fun i => by rw [t2]; exact d5 i, fun i => by rw [t2]; exact d6 i⟩
  have Et : isE b n t 11 l h e := isE_tf Ft hE
  have ecM : cM t l h = cM s l h := cM_eq (by rw [t2])
  clear ht
  rw [t2]
  refine ⟨by omega, ?_⟩
  refine Tot.imp (TEH_all 11 t _ l h e S O 100000 0 W ⟨hl, hh, hN, ho, hS, by rw [ecM]; exact hO, by omega, by omega⟩ Et he) ?_
  rintro v s5 ⟨rfl, F5, f5, S', O', P', k1, k2, k3, k4, k5, k6, k7, k8, k9, k10⟩
  rw [ecM] at k7
  have F5' : TFr tFK b l h S 100000 0 O s s5 := TF_tr Ft F5 (by decide) (Nat.le_refl _) (Nat.le_refl _) (Nat.le_refl _) (Nat.le_refl _) (Nat.le_refl _) (Nat.le_refl _)
  have f5' : f8 s s5 := f8_tr (f8_eq c3 (tk 8 (by decide))) f5
  have s70 : (s5.1 70).toInt = ((0 : Nat) : Int) := by rw [F5.1 70 (by decide)]; exact W.2.2.2.2.2.1
  unfold w_229_52
  refine ⟨rfl, fun hne => ⟨rfl, F5', f5', s70, S', O', k2, k3, k4, k5, k6, k7, fun q => absurd q hne⟩, fun h0 => ?_⟩
  obtain ⟨A, p0, a1', a2', a3', a4', a5', a6'⟩ := k10 h0
  have W5 : TW own b n Wd N T F H S0 G (some f) S' O' P' 0 s5 := TW_fr W F5 (by decide) ho f5.1 k1 s70 k2 k3 k4 (Nat.le_trans k5 hS) k6 k8
  obtain ⟨j1, j2, j3, j4, j5, j6, j7, j8, j9, j10⟩ := id W5.1
  refine Tot.imp (Tot.mono (by omega) (s_188 (d := 0) s70 (by omega))) ?_
  rintro v s7 ⟨rfl, x1, hx1, rfl⟩
  obtain ⟨u, hu⟩ : ∃ u, u = sf (sa (sa s5 266 (2 * 0) 0) 266 (2 * 0 + 1) 0) 70 x1 := ⟨_, rfl⟩
  rw [← hu]
  have ucell : ∀ q i, ¬ (q = 266 ∧ (i = 0 ∨ i = 1)) → u.2.1 q i = s5.2.1 q i := by
    intro q i hw
    rw [hu]
    show (sa (sa s5 266 (2 * 0) 0) 266 (2 * 0 + 1) 0).2.1 q i = _
    rw [sa_2, if_neg (fun w => hw ⟨w.1, Or.inr w.2⟩), sa_2, if_neg (fun w => hw ⟨w.1, Or.inl w.2⟩)]
  have uk : ∀ k, k ∉ [70] → u.1 k = s5.1 k := fun k hk => by
    rw [hu, sf_1, if_neg (fun w => hk (by rw [w]; decide))]
    rfl
  have u70 : (u.1 70).toInt = ((1 : Nat) : Int) := by rw [hu, sf_1, if_pos rfl]; omega
  have u66 : ∀ i, i = 0 ∨ i = 1 → (u.2.1 266 i).toInt = 0 := by
    intro i hi
    rw [hu]
    show ((sa (sa s5 266 (2 * 0) 0) 266 (2 * 0 + 1) 0).2.1 266 i).toInt = 0
    rcases hi with rfl | rfl
    · rw [sa_2, if_neg (by decide), sa_2, if_pos ⟨rfl, rfl⟩]
      decide
    · rw [sa_2, if_pos ⟨rfl, rfl⟩]
      decide
  have uX : XF [70] P' 0 s5 u := ⟨uk, fun q i _ w2 _ => ucell q i (fun w => w2 ⟨Or.inr w.1, by omega⟩), by rw [hu]; rfl, fun i => by rw [ucell 264 i (fun w => by omega)]; exact j5 i, fun i => by rw [ucell 265 i (fun w => by omega)]; exact j6 i⟩
  clear hu
  have ur : ∀ q, ¬ q = 266 → u.2.1 q = s5.2.1 q := fun q hq => funext (fun i => ucell q i (fun w => hq w.1))
  have r5 : ∀ q, q ∉ [226, 230, 231, 232, 264, 265, 266, 267, 268, 270, 271, 272] → s5.2.1 q = s.2.1 q := fun q hq => TF_row F5' hq
  rw [ur 257 (by decide), r5 257 (by decide), ur 258 (by decide), r5 258 (by decide), show (s.2.1 257 (60 * b + f)).toInt.toNat = 204 * b + gfh G f by omega, ur 251 (by decide), uk 80 (by decide), uk 81 (by decide)]
  refine ⟨_, rfl, by omega, by omega, by omega, ?_⟩
  have Eu : isE b n u 11 l h e := isE_tf (TF_xf (b := b) (lo := l) (hi := h) (S := S') (O := O') uX) (isE_tf F5 Et)
  refine Tot.imp (Tot.mono (by omega) (s_178 (d := 0) (m := 10) (by omega) hn he Eu (by omega))) ?_
  rintro v s10 ⟨es, x12, rfl, h12⟩
  have es := es.symm
  subst es
  refine ⟨x12, rfl, ?_⟩
  have Cu := CK_xf W5.1 uX (by decide) (Nat.le_trans (by decide) k8)
  obtain ⟨yy, pp, ll, o1, o2, o3, o4, o5, o6, o7⟩ := j2 251 (204 * b + gfh G f) (Or.inr (Or.inr (Or.inr (Or.inr ⟨gfh G f, w1, rfl, rfl⟩))))
  have gg := pgA j1
  rw [j8] at gg
  have hht := (gg.2.2.2.1 (gfh G f) w1).2.2.1
  rw [SY_ty o1 o5] at hht
  have okR := (j9.2.2.2.2.2.1 _ w1).2.2.1
  have okA : okE G (scX G (some f)) A := by
    obtain ⟨pp', -, hh'⟩ := a6'
    exact (wEp_ok hh').1
  have envn : ∀ b0 b1, envS b0 [] b1 [] = fun _ => none := fun b0 b1 => funext (fun c => envS_nil)
  have hP' : P' ≤ 199600 := by clear k10 ho; omega
  refine Tot.imp (Tot.mono (show 0 + 6 ≤ 570 by omega) (s_212 (e := 0) (own := own) (S0 := S0) (bt := b) (n2 := n) (W := Wd) (P := P') (E := 1) (p := p0) (l := A.length) (y := yy) (p2 := pp) (l2 := ll) (ev := 0) (b0 := (u.2.1 265 0).toInt.toNat) (b1 := (u.2.1 265 1).toInt.toNat) (As := []) (Bs := []) (sc := scX G (some f)) (sc2 := scHg G (gfh G f)) Cu (Lx_xf W5.2.1 uX) (by rw [uk 8 (by decide)]; exact f5.1) (by rw [uk 64 (by decide)]; exact k1) (Nat.le_trans (by decide) k8) hP' u70 (by omega) a1' a2' a5' (scX_C j9 gF' W5.2.2.2.1) (by rw [XF_seg uX a5', a3']; exact okA) o1 (NY_xf o5 uX) (by rw [XF_seg uX (by have := o5.2.2.2.1; omega), ← hht]; exact okR) s70 (by omega) ⟨⟨?_, ?_, by decide, fun a A hA => by simp at hA⟩, ?_, ?_, by decide, fun a A hA => by simp at hA⟩ (fun c hc => Or.inr ⟨envS_nil, hc⟩) ⟨h12.1, by have := h12.2.1; omega⟩)) ?_
  · have := Cu.2.2.2.2.2.1 0
    show (u.2.1 265 0).toInt = _
    omega
  · rw [u66 _ (Or.inl rfl)]; rfl
  · have := Cu.2.2.2.2.2.1 1
    show (u.2.1 265 1).toInt = _
    omega
  · rw [u66 _ (Or.inr rfl)]; rfl
  rintro v s13 ⟨rfl, X13, f13, i13⟩
  rw [XF_seg uX a5', a3', XF_seg uX (by have := o5.2.2.2.1; omega), ← hht, envn, subs_none (fun _ => rfl)] at i13
  have s1370 : (s13.1 70).toInt = 1 := by rw [X13.1 70 (by decide)]; exact u70
  refine ⟨rfl, by omega, ?_⟩
  rintro x15 hx15 s16 rfl
  have X5 : XF [70, 8, 71, 72, 73, 74] P' 0 s5 s13 := XF_tr (XF_mo uX (by decide) (Nat.le_refl _) (Nat.le_refl _)) X13 (by decide) (Nat.le_refl _) (by omega)
  have F13 : TFr tFK b l h S 100000 0 O s s13 := TF_tr F5' (TF_xf (b := b) (lo := l) (hi := h) (S := S') (O := O') X5) (by decide) (Nat.le_refl _) (Nat.le_refl _) k4 k8 (Nat.le_refl _) k6
  have f13' : f8 s s13 := f8_tr f5' (f8_tr (f8_eq f5.1 (uk 8 (by decide))) f13)
  refine ⟨rfl, TF_sf F13 (by decide), f13', (by show x15.toInt = 0; omega), S', O', by show (s13.1 65).toInt = _; rw [X5.1 65 (by decide)]; exact k2, by show (s13.1 85).toInt = _; rw [X5.1 85 (by decide)]; exact k3, k4, k5, k6, k7, fun q => ⟨A, ?_, (i13 q).1⟩⟩
  refine wE_eq (s := s5) (Nat.le_refl _) (Nat.le_refl _) ⟨fun q hq y _ _ => ?_, fun t' _ _ => ?_, fun j _ j2 => ?_, fun j _ _ => ?_⟩ a6'
  · show s13.2.1 q y = _
    rw [XF_row X5 (by clear i13; revert q; decide)]
  · show s13.2.1 217 t' = _
    rw [XF_row X5 (by decide)]
  · have hS' : S' ≤ 8210 := (TW_num W5).2.2.2.2.2.2.2
    exact X5.2.1 264 j (fun w => by omega) (fun w => by omega) (fun w => by omega)
  · show s13.2.1 270 j = _
    rw [XF_row X5 (by decide)]
end TFN
