/-! ===== the reference's run beside the pure machine: a METHOD: its TYPES, the call ===== -/
/-- j of the TYPES are put; the pure machine stands ahead of the call -/
def MEq (ar : Int → Int) (fc : Int → Int → Option (Nat × List Ins)) (mv : List Int → List Int → Int) (nT : Int) (G : PG) (XS : PMs) (Ai : List Int) (nm : Nat) (Ys : List (List Int)) (wq : Int) (C : List Ins) (st : List Itm) (w0 bs : Nat) (Ev : Env) (frs : List Frm) (vs : Vls) (l fa Bf : Int) (pl : Nat) (s0 : yS) (j : Nat) (en : Int) (w : yS) : Prop := ∃ (vs' : Vls) (cl' : Int) (N : Nat), ((∃ ws, vs' = vs ++ ws) ∧ vRl ar nT G w vs' ∧ (w.1 98).toInt = (vs'.length : Int)) ∧ (0 ≤ lft w ∧ lft w ≤ l ∧ (w.1 93).toInt = cl' ∧ kp6 s0 w) ∧ (¬ en = 1 → w.1 92 = s0.1 92) ∧ ((en = 0 ∧ ∃ (vals : List Nat) (l1 : Int) (Bs' : List (List Int)), vals.length = nm ∧ (∀ (j w' : Nat), vals[j]? = some w' → (w.2.1 278 (pl + 1 + j)).toInt = (w' : Int) ∧ w' < vs'.length) ∧ (lft w ≤ l1 ∧ l1 ≤ l ∧ (N : Int) ≤ 10 * (l - l1) + 6) ∧ PSn ar fc mv N XS (5, (5, Ai, (nm : Int), Ys, wq) :: C, st ++ .inr w0 :: vals.map .inr, bs, Ev, frs, vs', l1, cl', fa) ∧ ptL Ev (Ys.take j) l1 = (5, Bs', lft w)) ∨ (¬ en = 0 ∧ ∃ Y : PMs, PSn ar fc mv N XS Y ∧ Y.1 = en ∧ ¬ en = 5 ∧ Y.2.2.2.2.2.2.2.1 = lft w ∧ Y.2.2.2.2.2.2.2.2.1 = cl' ∧ (en = 1 → (w.1 92).toInt = Y.2.2.2.2.2.2.2.2.2) ∧ (N : Int) ≤ 10 * (l - lft w) + Bf))
section ZUK
variable {ar : Int → Int} {fc : Int → Int → Option (Nat × List Ins)} {mv : List Int → List Int → Int} {nT : Int} {G : PG} {XS : PMs} {Ai : List Int} {nm : Nat} {Ys : List (List Int)} {wq : Int} {C : List Ins} {st : List Itm} {w0 bs : Nat} {Ev : Env} {frs : List Frm} {vs : Vls} {l fa Bf q : Int} {pl j : Nat} {s0 u f : yS} {en : Int}
theorem lft_e (hk : ∀ k, k = 94 ∨ k = 95 ∨ k = 96 → f.1 k = u.1 k) : lft f = lft u := by
  unfold lft
  rw [hk 96 (by decide), hk 95 (by decide), hk 94 (by decide)]
theorem vRl_e (hr : ∀ q, q = 264 ∨ q = 275 ∨ q = 276 ∨ q = 277 → f.2.1 q = u.2.1 q) (h : vRl ar nT G u vs) : vRl ar nT G f vs := fun v A ps hv => by
  obtain ⟨h1, h2, h3, h4⟩ := h v A ps hv
  refine ⟨h1, ?_, h3, fun k w hk => by rw [hr 277 (by decide)]; exact h4 k w hk⟩
  rw [← h2]
  unfold VT
  rw [hr 275 (by decide), hr 276 (by decide)]
  exact seg_eq (fun i _ _ => by rw [hr 264 (by decide)])
theorem MEq_e (hk : ∀ k, k = 92 ∨ k = 93 ∨ k = 98 ∨ k = 94 ∨ k = 95 ∨ k = 96 → f.1 k = u.1 k) (hr : ∀ q, q = 264 ∨ q = 275 ∨ q = 276 ∨ q = 277 ∨ q = 278 → f.2.1 q = u.2.1 q) (h : MEq ar fc mv nT G XS Ai nm Ys wq C st w0 bs Ev frs vs l fa Bf pl s0 j en u) : MEq ar fc mv nT G XS Ai nm Ys wq C st w0 bs Ev frs vs l fa Bf pl s0 j en f := by
  have el : lft f = lft u := lft_e (fun k w => hk k (by omega))
  unfold MEq kp6 at h ⊢
  rw [el, hk 92 (by decide), hk 93 (by decide), hk 98 (by decide), hk 96 (by decide), hk 95 (by decide), hk 94 (by decide), hr 278 (by decide)]
  obtain ⟨vs', cl', N, ⟨h1, h2, h3⟩, h4⟩ := h
  exact ⟨vs', cl', N, ⟨h1, vRl_e (fun q w => hr q (by omega)) h2, h3⟩, h4⟩
/-- an end is an end -/
theorem MEq_bad {r : Int32} (hr : r.toInt = en) (hne : ¬ en = 0) (h : MEq ar fc mv nT G XS Ai nm Ys wq C st w0 bs Ev frs vs l fa Bf pl s0 j en u) : SmQ ar fc mv nT G XS C st bs Ev frs vs l fa q Bf s0 (some (.int r)) u := by
  obtain ⟨vs', cl', N, h1, h2, h3, h4⟩ := h
  rcases h4 with ⟨w, -⟩ | ⟨-, Y, k1, k2, k3, k4, k5, k6, k7⟩
  · exact absurd w hne
  · exact ⟨r, vs', cl', N, rfl, h1, h2, fun w => h3 (by rw [← hr]; exact w), Or.inr ⟨by rw [hr]; exact hne, Y, k1, by rw [hr]; exact k2, by rw [hr]; exact k3, k4, k5, fun w => k6 (by rw [← hr]; exact w), k7⟩⟩
/-- the end of evalMethod -/
theorem m139 {d : Nat} {a1 a2 a3 a4 a5 a6 a7 : Int32} (h70 : 0 ≤ (u.1 70).toInt ∧ (u.1 70).toInt ≤ 1000) (h : SmQ ar fc mv nT G XS C st bs Ev frs vs l fa q Bf s0 (some (.int a5)) u) : w_244_139 (Tot d) a1 a2 a3 a4 a5 a6 a7 u (SmQ ar fc mv nT G XS C st bs Ev frs vs l fa q Bf s0) := by
  unfold w_244_139
  refine ⟨by omega, ?_⟩
  rintro x1 hx1 s2 rfl s3 rfl
  have kk : ∀ k, ¬ k = 70 → ¬ k = 105 → (sf (sf u 70 x1) 105 a4).1 k = u.1 k := fun k k1 k2 => by rw [sf_1, if_neg k2, sf_1, if_neg k1]
  have el : lft (sf (sf u 70 x1) 105 a4) = lft u := lft_e (fun k w => kk k (by omega) (by omega))
  unfold SmQ kp6 at h ⊢
  obtain ⟨r, vs', cl', N, h1, ⟨h2, h3, h4⟩, h5, h6, h7⟩ := h
  rw [el, kk 98 (by decide) (by decide), kk 93 (by decide) (by decide), kk 96 (by decide) (by decide), kk 95 (by decide) (by decide), kk 94 (by decide) (by decide), kk 92 (by decide) (by decide), kk 102 (by decide) (by decide)]
  exact ⟨r, vs', cl', N, h1, ⟨h2, vRl_2 (s := u) rfl h3, h4⟩, h5, h6, h7⟩
/-- what is put, TYPE by TYPE -/
theorem ptT_sb {A : List Int} (h : (ptT Ev A l).1 = 5) : (ptT Ev A l).2.1 = sbs (eta Ev.1 Ev.2) A := by
  unfold ptT at h ⊢
  by_cases c1 : ∀ c ∈ A, c < 24
  · rw [if_pos c1]
    exact (sbs_cl c1).symm
  · rw [if_neg c1] at h ⊢
    by_cases c2 : 60 < (sbs (eta Ev.1 Ev.2) A).length
    · rw [if_pos c2] at h
      exact absurd (show (4 : Int) = 5 from h) (by decide)
    · rw [if_neg c2] at h ⊢
      by_cases c3 : ((sbs (eta Ev.1 Ev.2) A).length : Int) ≤ l
      · rw [if_pos c3]
      · rw [if_neg c3] at h
        exact absurd (show (2 : Int) = 5 from h) (by decide)
theorem ptL_sb (h24 : ∀ c, 24 ≤ c → ar c = 0) (hE : enK ar nT Ev) : ∀ (X : List (List Int)) (l : Int), (∀ A ∈ X, TGo ar nT (Ev.1.length : Int) (Ev.2.length : Int) A) → (ptL Ev X l).1 = 5 → (ptL Ev X l).2.1 = X.map (sbs (eta Ev.1 Ev.2)) ∧ ∀ B ∈ (ptL Ev X l).2.1, TGo ar nT 0 0 B
  | [], l, _, _ => ⟨rfl, fun B hB => by cases hB⟩
  | A :: X, l, hX, h => by
    have e : ptL Ev (A :: X) l = if (ptT Ev A l).1 = 5 then ((ptL Ev X (ptT Ev A l).2.2).1, (ptT Ev A l).2.1 :: (ptL Ev X (ptT Ev A l).2.2).2.1, (ptL Ev X (ptT Ev A l).2.2).2.2) else ((ptT Ev A l).1, [], (ptT Ev A l).2.2) := rfl
    by_cases q : (ptT Ev A l).1 = 5
    · rw [e, if_pos q] at h ⊢
      obtain ⟨i1, i2⟩ := ptL_sb h24 hE X (ptT Ev A l).2.2 (fun A hA => hX A (List.mem_cons_of_mem _ hA)) h
      refine ⟨?_, fun B hB => ?_⟩
      · show (ptT Ev A l).2.1 :: _ = _
        rw [i1, ptT_sb q]
        rfl
      · rcases List.mem_cons.mp hB with w | w
        · rw [w]
          exact TGo_pt h24 hE (hX A List.mem_cons_self) q
        · exact i2 B w
    · rw [e, if_neg q] at h
      exact absurd h q
end ZUK
section ZUL
variable {K L W ar kd : Int → Int} {TN Ls : List Int} {nI A0 A1 : Int} {own : Nat → Nat × Nat} {b n W' N T F H S0 : Nat} {G : PG} {S O E pl plx c Vn vt Lc Vn' vt' L' : Nat} {s u w : yS} {fo : Option Nat} {S' : Scp} {β0 β1 fa lo' hi' q0 Bf : Int} {fr ev b0 b1 : Nat} {As Bs Zs : List (List Nat)} {Ev : Env} {st : List Itm} {bs : Nat} {frs : List Frm} {vs : Vls} {C : List Ins} {Ai : List Int} {nm w0 : Nat} {Ys : List (List Int)} {XS : PMs} {ys : List Nat} {fc : Int → Int → Option (Nat × List Ins)} {mv : List Int → List Int → Int} {nT l wq : Int} {s0 : yS} {sc : Nat → Prop}
/-- one TYPE more -/
theorem MEq_step {d j y : Nat} {B : List Nat} {D AW : List Int} {ps : List Nat} {a1 a2 : Int32} (ha : ∀ c, 0 ≤ ar c ∧ ar c ≤ 7) (hR : RTm own b n W' N T F H S0 G S O (E + 1) plx c Vn' vt' L' w) (hE : E ≤ 41) (hev : ev < E + 1) (hEV : EV w ev vt' b0 As b1 Bs) (hτ : wEnv G sc (envS b0 As b1 Bs)) (hw : wT G b sc S w y B) (h1 : a1.toInt = (y : Int)) (h2 : a2.toInt = (ev : Int)) (hEv : enK ar nT Ev) (hRl : eRl ar b0 b1 β0 β1 As Bs Ev) (hD : TGo ar nT (Ev.1.length : Int) (Ev.2.length : Int) D) (hB : B = enN ar β0 β1 D) (hj : Ys[j]? = some D) (hvw : vs[w0]? = some (AW, ps)) (hplx : pl + 1 + nm ≤ plx) (hst : st.length + 7 ≤ 3900) (hnm : nm ≤ 6) (hBf : 7 ≤ Bf) (hM : MEq ar fc mv nT G XS Ai nm Ys wq C st w0 bs Ev frs vs l fa Bf pl s0 j 0 w) : Tot (d + 3) 239 [.ref 213, .int a1, .int a2] w (fun v s1 => ∃ r : Int32, v = some (.int r) ∧ ∀ (f : yS), f.1 = s1.1 → (∀ q, q = 264 ∨ q = 275 ∨ q = 276 ∨ q = 277 ∨ q = 278 → f.2.1 q = s1.2.1 q) → MEq ar fc mv nT G XS Ai nm Ys wq C st w0 bs Ev frs vs l fa Bf pl s0 (j + 1) r.toInt f) := by
  have hv := RT_vt hR
  obtain ⟨r1, r2, r3, r4, r5, r6, r7, r8, r9, r10, r11, r12, r13, r14, r15, r16, r17, r18, r19⟩ := id hR
  obtain ⟨pe1, pe2⟩ := put_enN ha hEv hRl hD
  rw [← hB] at pe1 pe2
  refine Tot.imp (s_239 (d := d) hR (by omega) hw h1 h2 hev hEV hτ) ?_
  rintro v s1 ⟨r, rfl, sX, vt3, L3, sR, g1, g2, g3, g4, g5⟩
  have eN : (subs (envS b0 As b1 Bs) B).length = (sbs (eta Ev.1 Ev.2) D).length := by rw [pe1, enN_len]
  obtain ⟨vs', cl', N1, ⟨⟨ws, p1⟩, p2, p3⟩, ⟨p4, p5, p6, p7⟩, p8, p9⟩ := hM
  obtain ⟨vals, l1, Bs', v1, v2, ⟨v3, v3', v3''⟩, v4, v5⟩ : ∃ (vals : List Nat) (l1 : Int) (Bs' : List (List Int)), vals.length = nm ∧ (∀ (j w' : Nat), vals[j]? = some w' → (w.2.1 278 (pl + 1 + j)).toInt = (w' : Int) ∧ w' < vs'.length) ∧ (lft w ≤ l1 ∧ l1 ≤ l ∧ (N1 : Int) ≤ 10 * (l - l1) + 6) ∧ PSn ar fc mv N1 XS (5, (5, Ai, (nm : Int), Ys, wq) :: C, st ++ .inr w0 :: vals.map .inr, bs, Ev, frs, vs', l1, cl', fa) ∧ ptL Ev (Ys.take j) l1 = (5, Bs', lft w) := by
    rcases p9 with ⟨-, h⟩ | ⟨h, -⟩
    · exact h
    · exact absurd rfl h
  have s96 : s1.1 96 = w.1 96 := sX.1 96 (by decide)
  have g5' := g5
  rw [hB] at g5'
  obtain ⟨k1, k2, k3, k4, k5⟩ := pt_link (E := Ev) (β0 := β0) (β1 := β1) (l := lft w) (by rw [← hB]; exact pe2) (by rw [← hB]; exact eN) g5' s96 rfl p4
  have hpl := ptT_l (E := Ev) (A := D) p4
  obtain ⟨q1, q2⟩ := ptL_st (A := D) v5
  have etk : Ys.take (j + 1) = Ys.take j ++ [D] := by rw [List.take_add_one, hj]; rfl
  rw [← etk] at q1 q2
  have hvn : vs'.length = Vn' := by omega
  refine ⟨r, rfl, fun f hf1 hf2 => ?_⟩
  have hV1 : vRl ar nT G s1 vs' := vRl_rx sX r17 (by omega) hvn p2
  have c278 : ∀ i, i < plx → s1.2.1 278 i = w.2.1 278 i := fun i hi => sX.2.1 278 i (fun w => by omega) (fun w => by omega) (fun w => by omega) (fun w => by omega) (fun w => by omega) (fun w => by omega)
  refine MEq_e (u := s1) (fun k _ => by rw [hf1]) hf2 ?_
  by_cases hr0 : r.toInt = 0
  · rw [if_pos hr0] at k3
    refine ⟨vs', cl', N1, ⟨⟨ws, p1⟩, hV1, by rw [sX.1 98 (by decide)]; exact p3⟩, ⟨k2, by omega, by rw [sX.1 93 (by decide)]; exact p6, kp6_tr p7 (kp6_p g5' s96)⟩, fun _ => by rw [sX.1 92 (by decide)]; exact p8 (by decide), Or.inl ⟨hr0, vals, l1, Bs' ++ [(ptT Ev D (lft w)).2.1], v1, fun i w' hi => ?_, ⟨by omega, v3', v3''⟩, v4, ?_⟩⟩
    · have hil := (List.getElem?_eq_some_iff.mp hi).1
      rw [c278 _ (by omega)]
      exact v2 i w' hi
    · rw [q1 k3, ← k1]
  · rw [if_neg hr0] at k3
    have hne : ¬ (ptT Ev D (lft w)).1 = 5 := by omega
    obtain ⟨q3, q4⟩ := q2 hne
    have eY : ptL Ev Ys l1 = ptL Ev (Ys.take (j + 1)) l1 := by
      have := ptL_no (E := Ev) (X := Ys.take (j + 1)) (Y := Ys.drop (j + 1)) (l := l1) (by rw [q3]; exact hne)
      rw [List.take_append_drop] at this
      exact this
    refine ⟨vs', cl', N1 + 1, ⟨⟨ws, p1⟩, hV1, by rw [sX.1 98 (by decide)]; exact p3⟩, ⟨k2, by omega, by rw [sX.1 93 (by decide)]; exact p6, kp6_tr p7 (kp6_p g5' s96)⟩, fun _ => by rw [sX.1 92 (by decide)]; exact p8 (by decide), Or.inr ⟨hr0, ((ptL Ev Ys l1).1, C, st ++ .inr w0 :: vals.map .inr, bs, Ev, frs, vs', (ptL Ev Ys l1).2.2, cl', fa), PSn_tr _ _ _ _ _ v4 (PSn_1 ⟨rfl, ?_, Or.inr (Or.inr (Or.inr (Or.inr (Or.inl ⟨rfl, st, w0, vals, AW, ps, rfl, ?_, ?_, Or.inl ⟨?_, rfl⟩⟩))))⟩), ?_, by omega, ?_, rfl, fun w => by omega, by omega⟩⟩
    · rw [List.length_append, List.length_cons, List.length_map]
      omega
    · show (vals.length : Int) = (nm : Int)
      omega
    · rw [p1, List.getElem?_append_left (List.getElem?_eq_some_iff.mp hvw).1]
      exact hvw
    · rw [eY, q3]
      exact hne
    · show (ptL Ev Ys l1).1 = r.toInt
      rw [eY, q3]
      exact k3
    · show (ptL Ev Ys l1).2.2 = lft s1
      rw [eY, q4]
      exact k1.symm
set_option maxHeartbeats 2000000 in
/-- STEPS, the call -/
theorem m115 {d e v kf g t m' : Nat} {Vs Ds : List (List Nat)} {Ar : List Nat} {wd : Int} {a1 a2 a3 a4 a5 a6 a7 : Int32} {AW : List Int} {ps : List Nat} (hPR : PRm K L W ar kd nI lo' hi' TN Ls) (hFO : FOk K L W ar kd TN Ls nI) (hA1 : A1 ≤ 13000) (ih : REH own b n W' N T F H S0 G S O (c + 1) 11 d) (ihS : RSm K L W ar kd TN Ls nI A0 A1 own b n W' N T F H S0 G S O (c + 1) 11 d) (hd : 4 ≤ d) (hvt0 : 13000 ≤ vt ∧ vt ≤ 18000) (hX : RX rK7 E pl Vn vt s u) (hR : RTm own b n W' N T F H S0 G S O (E + 1) plx c Vn' vt' L' u) (hE : E ≤ c + 1) (hplx : pl < plx ∧ plx ≤ pl + 7) (hpl : c < 40 → plx + 77 + 80 * (39 - c) ≤ 4000) (hN : N ≤ 12006) (he : e < 12006) (h1 : a1.toInt = (e : Int)) (h4 : a4.toInt = (pl : Int)) (h6 : a6.toInt = (E : Int)) (hC : a5.toInt = 0 → CLH G F E pl plx Vn' vt' e w0 v kf g t Vs Ds Ar wd u)
    (hSC : SCx K L W ar kd TN Ls nI A0 A1 b G S' β0 β1 b0 b1 As Bs Ev st bs fr pl frs vs c Vn s) (hq : wTk K nI q0) (hqt : (t : Int) = 4002 * (b : Int) + q0) (hvw : vs[w0]? = some (AW, ps)) (hM : MEq ar (fcD K L W ar kd TN Ls) (mvC K L W ar kd TN Ls) (TN.length : Int) G XS Ai nm Ys (W q0) C st w0 bs Ev frs vs (lft s) fa (8 * (m' : Int) + 6 + 100 * (41 - (c : Int))) pl s Ys.length a5.toInt u) (hD : a5.toInt = 0 → Ds = (Ys.map (sbs (eta Ev.1 Ev.2))).map (enN ar 0 0) ∧ Ds.length = ghn G g ∧ nm = gvn G g) (hYs : ∀ A ∈ Ys, TGo ar (TN.length : Int) (Ev.1.length : Int) (Ev.2.length : Int) A) (hh : st.length + 8 ≤ 88 * (c + 1)) : w_244_115 (Tot (d + 1)) a1 a2 a3 a4 a5 a6 a7 u (SmQ ar (fcD K L W ar kd TN Ls) (mvC K L W ar kd TN Ls) (TN.length : Int) G XS C st bs Ev frs vs (lft s) fa 0 (8 * (m' : Int) + 6 + 100 * (41 - (c : Int))) s) := by
  have hvv := RT_vt hR
  have hc40 := hR.2.2.2.2.2.2.2.2.2.2.2.2.2.2.2.2.2.2
  have h70 := hR.2.2.2.1
  obtain ⟨ha, h24⟩ := PR_ar hPR
  have hfc := hSC.2.2.2.1.2.2
  have hEv := hSC.2.1.1.1
  unfold w_244_115
  refine ⟨fun hne => ?_, fun h0 => ?_⟩
  · unfold w_244_122
    refine ⟨fun _ => ?_, fun w => absurd w hne⟩
    unfold w_244_131
    exact ⟨fun _ => m139 (by omega) (MEq_bad rfl hne hM), fun w => absurd w hne⟩
  · have hC' := hC h0
    obtain ⟨hD1, hD2, hD3⟩ := hD h0
    rw [h0] at hM
    obtain ⟨vs', cl', N1, ⟨⟨ws, p1⟩, p2, p3⟩, ⟨p4, p5, p6, p7⟩, p8, p9⟩ := hM
    obtain ⟨vals, l1, Bs', v1, v2, ⟨v3, v3', v3''⟩, v4, v5⟩ : ∃ (vals : List Nat) (l1 : Int) (Bs' : List (List Int)), vals.length = nm ∧ (∀ (j w' : Nat), vals[j]? = some w' → (u.2.1 278 (pl + 1 + j)).toInt = (w' : Int) ∧ w' < vs'.length) ∧ (lft u ≤ l1 ∧ l1 ≤ lft s ∧ (N1 : Int) ≤ 10 * (lft s - l1) + 6) ∧ PSn ar (fcD K L W ar kd TN Ls) (mvC K L W ar kd TN Ls) N1 XS (5, (5, Ai, (nm : Int), Ys, W q0) :: C, st ++ .inr w0 :: vals.map .inr, bs, Ev, frs, vs', l1, cl', fa) ∧ ptL Ev (Ys.take Ys.length) l1 = (5, Bs', lft u) := by
      rcases p9 with ⟨-, h⟩ | ⟨h, -⟩
      · exact h
      · exact absurd rfl h
    rw [List.take_length] at v5
    have k1 : (ptL Ev Ys l1).1 = 5 := by rw [v5]
    have k2 : (ptL Ev Ys l1).2.2 = lft u := by rw [v5]
    have k3 : (ptL Ev Ys l1).2.1 = Bs' := by rw [v5]
    obtain ⟨sb1, sb2⟩ := ptL_sb h24 hEv Ys l1 hYs k1
    rw [k3] at sb1 sb2
    have hvn : vs'.length = Vn' := by
      have := hR.2.2.2.2.2.2.1
      omega
    have hvw' : vs'[w0]? = some (AW, ps) := by
      rw [p1, List.getElem?_append_left (List.getElem?_eq_some_iff.mp hvw).1]
      exact hvw
    have hnm6 : vals.length ≤ 6 := by
      have := hC'.2.2.2.2.2.2.2.2.2.2.2.2.2.2.2.2.1
      omega
    have hlen : ((st ++ .inr w0 :: vals.map .inr : List Itm)).length ≤ 3900 := by
      rw [List.length_append, List.length_cons, List.length_map]
      omega
    have stp : ∀ Y : PMs, ((¬ (ptL Ev Ys l1).1 = 5 ∧ Y = ((ptL Ev Ys l1).1, C, st ++ .inr w0 :: vals.map .inr, bs, Ev, frs, vs', (ptL Ev Ys l1).2.2, cl', fa)) ∨ ((ptL Ev Ys l1).1 = 5 ∧ (ptL Ev Ys l1).2.2 < 1 ∧ Y = (2, C, st ++ .inr w0 :: vals.map .inr, bs, Ev, frs, vs', 0, cl', fa)) ∨ ((ptL Ev Ys l1).1 = 5 ∧ 1 ≤ (ptL Ev Ys l1).2.2 ∧ 40 ≤ frs.length ∧ Y = (3, C, st ++ .inr w0 :: vals.map .inr, bs, Ev, frs, vs', (ptL Ev Ys l1).2.2 - 1, cl', fa)) ∨ ((ptL Ev Ys l1).1 = 5 ∧ 1 ≤ (ptL Ev Ys l1).2.2 ∧ frs.length < 40 ∧ ∃ Cf : List Ins, fcD K L W ar kd TN Ls (AW.headD 0) (W q0) = some ((ptL Ev Ys l1).2.1.length, Cf) ∧ Y = (5, Cf, st ++ .inr w0 :: vals.map .inr, st.length, (argT ar AW, (ptL Ev Ys l1).2.1), (C, bs, Ev) :: frs, vs', (ptL Ev Ys l1).2.2 - 1, cl' + 1, fa))) → PSn ar (fcD K L W ar kd TN Ls) (mvC K L W ar kd TN Ls) (N1 + 1) XS Y := fun Y hY => PSn_tr _ _ _ _ _ v4 (PSn_1 ⟨rfl, hlen, Or.inr (Or.inr (Or.inr (Or.inr (Or.inl ⟨rfl, st, w0, vals, AW, ps, rfl, (by show (vals.length : Int) = (nm : Int); omega), hvw', hY⟩))))⟩)
    refine Tot.imp (Tot.mono (by omega) (r_237 (d := 0) hR)) ?_
    rintro v' w ⟨x3, rfl, wX, w2, L2, wR, hL2, hr, hr2⟩
    have hC' := CLH_2 w2 hC'
    have w96 : w.1 96 = u.1 96 := wX.1 96 (by decide)
    have w106 := wR.2.2.2.2.2.1
    have w70 := wR.2.2.2.1
    have hVw : vRl ar (TN.length : Int) G w vs' := vRl_2 w2 p2
    have sX : RX rK7 E pl Vn vt s w := by
      refine ⟨fun k hk => ?_, fun q i c1 c2 c3 c4 c5 c6 => by rw [w2]; exact hX.2.1 q i c1 c2 c3 c4 c5 c6, by rw [w2]; exact hX.2.2.1, wX.2.2.2⟩
      rw [wX.1 k (fun z => hk ((show ∀ k ∈ [94, 95], k ∈ rK7 by decide) k z))]
      exact hX.1 k hk
    have hk6 : kp6 u w := by
      rcases hr2 with ⟨-, -, h⟩ | ⟨-, -, h⟩
      · exact kp6_u h w96
      · exact kp6_u h w96
    -- an end without a call
    have fin : ∀ (r : Int32) (Y : PMs), ¬ r.toInt = 0 → ¬ r.toInt = 1 → ¬ r.toInt = 5 → Y.1 = r.toInt → Y.2.2.2.2.2.2.2.1 = lft w → Y.2.2.2.2.2.2.2.2.1 = cl' → 0 ≤ lft w → lft w ≤ lft u → PSn ar (fcD K L W ar kd TN Ls) (mvC K L W ar kd TN Ls) (N1 + 1) XS Y → SmQ ar (fcD K L W ar kd TN Ls) (mvC K L W ar kd TN Ls) (TN.length : Int) G XS C st bs Ev frs vs (lft s) fa 0 (8 * (m' : Int) + 6 + 100 * (41 - (c : Int))) s (some (.int r)) w := fun r Y c0 c1 c5 y1 y2 y3 y4 y5 hY => ⟨r, vs', cl', N1 + 1, rfl, ⟨⟨ws, p1⟩, hVw, by rw [wX.1 98 (by decide)]; exact p3⟩, ⟨y4, by omega, by rw [wX.1 93 (by decide)]; exact p6, kp6_tr p7 hk6⟩, fun _ => by rw [wX.1 92 (by decide)]; exact p8 (by decide), Or.inr ⟨c0, Y, hY, y1, c5, y2, y3, fun w => absurd w c1, by omega⟩⟩
    refine ⟨x3, rfl, ?_⟩
    unfold w_244_122
    rcases hr2 with ⟨g1, g2, g3⟩ | ⟨g1, g2, g3⟩
    · have el := lft_u g3 w96
      refine ⟨fun hne => absurd g1 hne, fun h3 => ⟨fun hne => ?_, fun h40 => ?_⟩⟩
      · unfold w_244_131
        refine ⟨fun w => absurd h3 w, fun _ => ?_⟩
        obtain ⟨c1, c2, c3, c4, c5, c6, c7, c8, c9, c10, c11, c12, c13, c14, c15, c16, c17, c18⟩ := hC'
        have hL3 : L2 = L' + 1 := by rcases hr with hr | hr <;> omega
        have h93 : (w.1 93).toInt + 1 ≤ (L2 : Int) := by
          rw [wX.1 93 (by decide)]
          have := hR.2.2.2.2.2.2.2.2.2.2.2.2.1
          omega
        have hc39 : c < 40 := by
          have : ¬ c = 40 := fun w => hne (by omega)
          omega
        have wSC : SCx K L W ar kd TN Ls nI A0 A1 b G S' β0 β1 b0 b1 As Bs Ev st bs fr pl frs vs' c Vn' w := by
          have := SCx_rx (st' := []) sX (by omega) hA1 (by decide) (Nat.le_refl _) (Nat.le_refl _) hVw hvn (by omega) hSC
          rw [List.append_nil] at this
          exact this
        have w93 : (w.1 93).toInt = cl' := by rw [wX.1 93 (by decide)]; exact p6
        refine Tot.imp (Tot_and (s_245 ih hd wR hc39 h93 hE hplx (hpl hc39) hN he h1 h4 h6 c1 c2 c3 c4 c5 c6 c7 c8 c9 c10 c11 c12 c13 c14 c15 c16 c17 c18) (m_245 (C := C) (fa := fa) (Yv := Bs') (vals := vals) hPR hFO hA1 ih ihS hd wR hc39 h93 hE hplx (hpl hc39) hN he h1 h4 h6 c1 c2 c3 c4 c5 c6 c7 c8 c9 c10 c11 c12 c13 c14 c15 c16 c17 c18 wSC hq hqt hvw' (by omega) (fun j w' hj => by rw [w2]; exact (v2 j w' hj).1) (by rw [hD1, sb1]) sb2 hD2 hh)) ?_
        rintro v' f ⟨⟨rr, -, -, -, V2, t2, L3, fR, -⟩, Cf, y1, y2⟩
        obtain ⟨r, vs2, cl2, N2, rfl, y3⟩ := id y2
        refine ⟨r, rfl, ?_⟩
        rw [w93] at y2
        have hY := stp (5, Cf, st ++ .inr w0 :: vals.map .inr, st.length, (argT ar AW, Bs'), (C, bs, Ev) :: frs, vs', lft w, cl' + 1, fa) (Or.inr (Or.inr (Or.inr ⟨k1, by omega, by omega, Cf, by rw [k3]; exact y1, by rw [k3, k2, show lft w = lft u - 1 by omega]⟩)))
        have f70 : 0 ≤ (f.1 70).toInt ∧ (f.1 70).toInt ≤ 1000 := by
          have := fR.2.2.2.1
          omega
        refine m139 f70 (SmQ_mo (q := 2 + -3) (Bf := 80 + 100 * (40 - (c : Int)) + -3) (by omega) (by omega) (SmQ_pre (s1 := w) (l1 := lft w) hY (by omega) (by omega) ⟨ws, p1⟩ ?_ ?_ y2))
        · rw [wX.1 92 (by decide)]
          exact p8 (by decide)
        · exact kp6_tr p7 hk6
      · unfold w_244_131
        exact ⟨fun _ => m139 (by omega) (fin 3 _ (by decide) (by decide) (by decide) rfl (by show (ptL Ev Ys l1).2.2 - 1 = _; omega) rfl (by omega) (by omega) (stp _ (Or.inr (Or.inr (Or.inl ⟨k1, by omega, by omega, rfl⟩))))), fun w => absurd w (by decide)⟩
    · have el := lft_u g3 w96
      refine ⟨fun hne => ?_, fun h3 => by omega⟩
      unfold w_244_131
      exact ⟨fun _ => m139 (by omega) (fin x3 _ hne (by omega) (by omega) (by show (2 : Int) = _; omega) (by show (0 : Int) = _; omega) rfl (by omega) (by omega) (stp _ (Or.inr (Or.inl ⟨k1, by omega, rfl⟩)))), fun w => absurd w hne⟩
end ZUL
