/-! ===== the reference: instances: the nodes of an E with its code; addParts, addMethod ===== -/
/-- rows of code that can be gone through -/
def gdI (ar : Int → Int) (nT nX nY : Int) (I : Ins) : Prop := (∀ A ∈ tlI I, TGo ar nT nX nY A) ∧ (I.1 = 5 → TGo ar nT nX nY I.2.1 ∧ I.2.2.2.1.length ≤ 6)
/-- code whose items may be made -/
def okC (ar : Int → Int) (nT nX nY : Int) (Dr : Mit → Prop) (Bd : Prop) (η : Nat → List Int) (C : List Ins) : Prop := (∀ I ∈ C, gdI ar nT nX nY I) ∧ (∀ x, hsC ar η C x → Dr x) ∧ (grC η C → Bd)
/-- all items of code are there -/
def dn (ar : Int → Int) (η : Nat → List Int) (its : List Mit) (C : List Ins) : Prop := ¬ grC η C ∧ ∀ x, hsC ar η C x → x ∈ its
/-- nodes one beside another -/
def nCh (s : yS) : List Int → Int → Prop
  | [], x => x < 0
  | c :: cs, x => (x = c ∧ 0 ≤ c) ∧ nCh s cs (s.2.1 225 c.toNat).toInt
/-- a node of an E, and the code of it -/
def nNd (ar : Int → Int) (β0 β1 Z : Int) (wr hw : Nat → Int) (H : Nat) (s : yS) : Nat → Int → List Ins → Prop
  | 0, _, _ => False
  | f + 1, e, C => 0 ≤ e ∧ (((s.2.1 221 e.toNat).toInt = 1 ∧ ∀ I ∈ C, tlI I = [] ∧ ¬ I.1 = 5) ∨ ((s.2.1 221 e.toNat).toInt = 2 ∧ ∃ (D es : List Int) (Cs : List (List Ins)) (k : Int), RSe s Z (s.2.1 229 e.toNat).toInt (D.map (rhE ar β0 β1)) ∧ (nCh s es (s.2.1 224 e.toNat).toInt ∧ Cs.length = es.length ∧ ∀ (i : Nat) (c : Int) (B : List Ins), es[i]? = some c → Cs[i]? = some B → nNd ar β0 β1 Z wr hw H s f c B) ∧ C = (2, D, 0, [], 0) :: (Cs.flatten ++ [(3, [], k, [], 0)])) ∨ ((s.2.1 221 e.toNat).toInt = 3 ∧ ∃ (C0 : List Ins) (k : Int), nNd ar β0 β1 Z wr hw H s f (s.2.1 227 e.toNat).toInt C0 ∧ C = C0 ++ [(4, [], k, [], 0)]) ∨ ((s.2.1 221 e.toNat).toInt = 5 ∧ ∃ (C0 : List Ins) (D : List Int) (k : Int), nNd ar β0 β1 Z wr hw H s f (s.2.1 227 e.toNat).toInt C0 ∧ RSe s Z (s.2.1 229 e.toNat).toInt (D.map (rhE ar β0 β1)) ∧ C = C0 ++ [(6, D, k, [], 0)]) ∨ ((s.2.1 221 e.toNat).toInt = 4 ∧ ∃ (C0 : List Ins) (Ai : List Int) (Ys : List (List Int)) (ys es : List Int) (Cs : List (List Ins)) (k : Int) (g : Nat), nNd ar β0 β1 Z wr hw H s f (s.2.1 227 e.toNat).toInt C0 ∧ ((s.2.1 272 e.toNat).toInt = (Ai.length : Int) ∧ ∀ (i : Nat) (c : Int), (Ai.map (rhE ar β0 β1))[i]? = some c → KI (s.2.1 270) ((s.2.1 271 e.toNat).toInt + (i : Int)) = c) ∧ (g < H ∧ (s.2.1 217 (s.2.1 222 e.toNat).toInt.toNat).toInt = wr g) ∧ (nCh s ys (s.2.1 229 e.toNat).toInt ∧ Ys.length = ys.length ∧ ∀ (i : Nat) (y : Int) (Y : List Int), ys[i]? = some y → Ys[i]? = some Y → RSe s Z y (Y.map (rhE ar β0 β1))) ∧ (nCh s es (s.2.1 224 e.toNat).toInt ∧ Cs.length = es.length ∧ ∀ (i : Nat) (c : Int) (B : List Ins), es[i]? = some c → Cs[i]? = some B → nNd ar β0 β1 Z wr hw H s f c B) ∧ C = C0 ++ (Cs.flatten ++ [(5, Ai, k, Ys, hw g)])))
section ZVU0
variable {ar : Int → Int} {nT nX nY : Int} {Dr : Mit → Prop} {Bd : Prop} {η : Nat → List Int} {its ws : List Mit} {C C' : List Ins} {Cs : List (List Ins)} {D Ai : List Int} {Ys : List (List Int)} {k w : Int} {s s' : yS} {β0 β1 Z T : Int} {wr hw : Nat → Int} {H : Nat}
theorem hsC_s (h : ∀ I ∈ C, I ∈ C') {x : Mit} (g : hsC ar η C x) : hsC ar η C' x := by
  rcases g with ⟨I, hI, g⟩ | ⟨I, hI, g⟩
  · exact Or.inl ⟨I, h I hI, g⟩
  · exact Or.inr ⟨I, h I hI, g⟩
theorem okC_s (h : ∀ I ∈ C, I ∈ C') (g : okC ar nT nX nY Dr Bd η C') : okC ar nT nX nY Dr Bd η C := ⟨fun I hI => g.1 I (h I hI), fun x hx => g.2.1 x (hsC_s h hx), fun ⟨I, hI, q⟩ => g.2.2 ⟨I, h I hI, q⟩⟩
theorem dn_m (h : dn ar η its C) (hs : ∀ x ∈ its, x ∈ ws) : dn ar η ws C := ⟨h.1, fun x hx => hs x (h.2 x hx)⟩
theorem dn_a (h : dn ar η its C) : dn ar η (its ++ ws) C := dn_m h (fun _ q => List.mem_append_left _ q)
theorem dn_app (h : dn ar η its C) (g : dn ar η its C') : dn ar η its (C ++ C') := by
  refine ⟨fun ⟨I, hI, q⟩ => ?_, fun x hx => ?_⟩
  · rcases List.mem_append.mp hI with z | z
    · exact h.1 ⟨I, z, q⟩
    · exact g.1 ⟨I, z, q⟩
  · rcases hx with ⟨I, hI, q⟩ | ⟨I, hI, q⟩
    · rcases List.mem_append.mp hI with z | z
      · exact h.2 x (Or.inl ⟨I, z, q⟩)
      · exact g.2 x (Or.inl ⟨I, z, q⟩)
    · rcases List.mem_append.mp hI with z | z
      · exact h.2 x (Or.inr ⟨I, z, q⟩)
      · exact g.2 x (Or.inr ⟨I, z, q⟩)
theorem dn_no (h : ∀ I ∈ C, tlI I = [] ∧ ¬ I.1 = 5) : dn ar η its C := by
  refine ⟨fun ⟨I, hI, q⟩ => ?_, fun x hx => ?_⟩
  · rcases q with ⟨A, hA, -⟩ | ⟨q, -⟩
    · rw [(h I hI).1] at hA
      cases hA
    · exact (h I hI).2 q
  · rcases hx with ⟨I, hI, A, hA, -⟩ | ⟨I, hI, q, -⟩
    · rw [(h I hI).1] at hA
      cases hA
    · exact absurd q (h I hI).2
theorem dn_fl : ∀ (Cs : List (List Ins)), (∀ B ∈ Cs, dn ar η its B) → dn ar η its Cs.flatten
  | [], _ => dn_no (fun I hI => by cases hI)
  | B :: Cs, h => by
    rw [List.flatten_cons]
    exact dn_app (h B List.mem_cons_self) (dn_fl Cs (fun B' hB => h B' (List.mem_cons_of_mem _ hB)))
theorem tl_no {I : Ins} (h2 : ¬ I.1 = 2) (h6 : ¬ I.1 = 6) (h5 : ¬ I.1 = 5) : tlI I = [] := by
  unfold tlI
  rw [if_neg (fun q => q.elim h2 h6), if_neg h5]
theorem tl_2 {I : Ins} (h : I.1 = 2 ∨ I.1 = 6) : tlI I = [I.2.1] := if_pos h
theorem mem_tl {I : Ins} (h : I.1 = 2 ∨ I.1 = 6) : I.2.1 ∈ tlI I := by
  rw [tl_2 h]
  exact List.mem_singleton.mpr rfl
theorem tl_5 {I : Ins} (h : I.1 = 5) : tlI I = I.2.2.2.1 := by
  unfold tlI
  rw [if_neg (fun q => by omega), if_pos h]
theorem dn_1 {I : Ins} (h2 : ¬ I.1 = 2) (h6 : ¬ I.1 = 6) (h5 : ¬ I.1 = 5) : dn ar η its [I] := dn_no (fun J hJ => by
  rw [List.mem_singleton.mp hJ]
  exact ⟨tl_no h2 h6 h5, h5⟩)
theorem dn_ty {I : Ins} (h : I.1 = 2 ∨ I.1 = 6) (h0 : ¬ 60 < (sbs η I.2.1).length) (h1 : ∀ i : Nat, i < (sbs η I.2.1).length → (0, subT ar (sbs η I.2.1) i, 0, []) ∈ its) : dn ar η its [I] := by
  refine ⟨fun ⟨J, hJ, q⟩ => ?_, fun x hx => ?_⟩
  · rw [List.mem_singleton.mp hJ, tl_2 h] at q
    rcases q with ⟨A, hA, q⟩ | ⟨q, -⟩
    · rw [List.mem_singleton.mp hA] at q
      exact h0 q
    · omega
  · rcases hx with ⟨J, hJ, A, hA, i, hi, rfl⟩ | ⟨J, hJ, q, -⟩
    · rw [List.mem_singleton.mp hJ, tl_2 h] at hA
      rw [List.mem_singleton.mp hA] at hi ⊢
      exact h1 i hi
    · rw [List.mem_singleton.mp hJ] at q
      omega
theorem dn_call {I : Ins} (h : I.1 = 5) (h0 : ¬ 60 < (sbs η I.2.1).length) (h1 : (1, sbs η I.2.1, I.2.2.2.2, I.2.2.2.1.map (sbs η)) ∈ its) (h2 : ∀ Y ∈ I.2.2.2.1, ¬ 60 < (sbs η Y).length ∧ ∀ i : Nat, i < (sbs η Y).length → (0, subT ar (sbs η Y) i, 0, []) ∈ its) : dn ar η its [I] := by
  refine ⟨fun ⟨J, hJ, q⟩ => ?_, fun x hx => ?_⟩
  · rw [List.mem_singleton.mp hJ, tl_5 h] at q
    rcases q with ⟨A, hA, q⟩ | ⟨-, q⟩
    · exact (h2 A hA).1 q
    · exact h0 q
  · rcases hx with ⟨J, hJ, A, hA, i, hi, rfl⟩ | ⟨J, hJ, q, rfl⟩
    · rw [List.mem_singleton.mp hJ, tl_5 h] at hA
      exact (h2 A hA).2 i hi
    · rw [List.mem_singleton.mp hJ]
      exact h1
theorem nCh_q (r : s'.2.1 225 = s.2.1 225) : ∀ (cs : List Int) (x : Int), nCh s cs x → nCh s' cs x
  | [], _, h => h
  | c :: cs, x, h => ⟨h.1, by rw [r]; exact nCh_q r cs _ h.2⟩
theorem nNd_q (r : ∀ q, (q < 264 ∨ (269 < q ∧ q < 273)) → s'.2.1 q = s.2.1 q) (t : ∀ j : Nat, (j : Int) < Z → s'.2.1 264 j = s.2.1 264 j) : ∀ (f : Nat) (e : Int) (C : List Ins), nNd ar β0 β1 Z wr hw H s f e C → nNd ar β0 β1 Z wr hw H s' f e C
  | 0, _, _, h => h
  | f + 1, e, C, h => by
    have ih := nNd_q r t f
    have rs : ∀ (y : Int) (E : List Int), RSe s Z y E → RSe s' Z y E := fun y E g => RSe_x (fun q hq => r q (Or.inl hq)) t g
    obtain ⟨h0, h⟩ := h
    unfold nNd
    rw [r 221 (by decide), r 229 (by decide), r 224 (by decide), r 227 (by decide), r 272 (by decide), r 270 (by decide), r 271 (by decide), r 217 (by decide), r 222 (by decide)]
    refine ⟨h0, ?_⟩
    rcases h with h | ⟨h1, D, es, Cs, k, h2, ⟨h3, h4, h5⟩, h6⟩ | ⟨h1, C0, k, h2, h3⟩ | ⟨h1, C0, D, k, h2, h3, h4⟩ | ⟨h1, C0, Ai, Ys, ys, es, Cs, k, g, h2, h3, h4, ⟨h5, h6, h7⟩, ⟨h8, h9, h10⟩, h11⟩
    · exact Or.inl h
    · exact Or.inr (Or.inl ⟨h1, D, es, Cs, k, rs _ _ h2, ⟨nCh_q (r 225 (by decide)) _ _ h3, h4, fun i c B hc hB => ih c B (h5 i c B hc hB)⟩, h6⟩)
    · exact Or.inr (Or.inr (Or.inl ⟨h1, C0, k, ih _ _ h2, h3⟩))
    · exact Or.inr (Or.inr (Or.inr (Or.inl ⟨h1, C0, D, k, ih _ _ h2, rs _ _ h3, h4⟩)))
    · exact Or.inr (Or.inr (Or.inr (Or.inr ⟨h1, C0, Ai, Ys, ys, es, Cs, k, g, ih _ _ h2, h3, h4, ⟨nCh_q (r 225 (by decide)) _ _ h5, h6, fun i y Y hy hY => rs _ _ (h7 i y Y hy hY)⟩, ⟨nCh_q (r 225 (by decide)) _ _ h8, h9, fun i c B hc hB => ih c B (h10 i c B hc hB)⟩, h11⟩)))
theorem nNd_j (h : IFj T s s') (hZ : Z ≤ (s.1 118).toInt) {f : Nat} {e : Int} (g : nNd ar β0 β1 Z wr hw H s f e C) : nNd ar β0 β1 Z wr hw H s' f e C := nNd_q (fun q hq => funext fun j => h.2.2.1 q j (by omega)) (fun j hj => h.2.2.2.2.1 j (Or.inl (by omega))) f e C g
theorem IFj_r (h : IFj T s s') {q : Nat} (hq : q < 264 ∨ (264 < q ∧ q < 279)) : s'.2.1 q = s.2.1 q := funext fun j => h.2.2.1 q j (by omega)
end ZVU0
/-- what addE promises, of nodes f deep -/
def AEn (ar : Int → Int) (nT β0 β1 Z : Int) (wr hw : Nat → Int) (H : Nat) (fx : Int → Int → Int) (Dr : Mit → Prop) (Bd : Prop) (Ev : Env) (f : Nat) : Prop := ∀ (d : Nat) (s : yS) (a1 a2 : Int32) (e : Nat) (T : Int) (its : List Mit) (C : List Ins), nNd ar β0 β1 Z wr hw H s f a1.toInt C → EVn ar s e T β0 β1 Ev → (s.1 64).toInt = T → 100000 ≤ T → RIl ar nT wr hw H fx Dr Bd its s → okC ar nT (Ev.1.length : Int) (Ev.2.length : Int) Dr Bd (eta Ev.1 Ev.2) C → a2.toInt = (e : Int) → Par d 253 [.ref 213, .int a1, .int a2] s (fun v s' => v = none ∧ IFj T s s' ∧ s'.1 64 = s.1 64 ∧ ∃ ws, RIl ar nT wr hw H fx Dr Bd (its ++ ws) s' ∧ (¬ (s'.1 111).toInt = 0 → dn ar (eta Ev.1 Ev.2) (its ++ ws) C))
section ZVU
variable {ar : Int → Int} {nT β0 β1 Z : Int} {wr hw : Nat → Int} {H : Nat} {fx : Int → Int → Int} {Dr : Mit → Prop} {Bd : Prop} {Ev : Env} {f : Nat} {s : yS} {a1 a2 : Int32} {e d : Nat} {T : Int} {its : List Mit} {C : List Ins}
/-- addParts -/
theorem x_254 {es : List Int} {Cs : List (List Ins)} (ih : AEn ar nT β0 β1 Z wr hw H fx Dr Bd Ev f) (hZ : Z ≤ 13000) (hL : nCh s es a1.toInt) (hl : Cs.length = es.length) (hN : ∀ (i : Nat) (c : Int) (B : List Ins), es[i]? = some c → Cs[i]? = some B → nNd ar β0 β1 Z wr hw H s f c B) (hV : EVn ar s e T β0 β1 Ev) (hT : (s.1 64).toInt = T) (hT0 : 100000 ≤ T) (hI : RIl ar nT wr hw H fx Dr Bd its s) (hC : okC ar nT (Ev.1.length : Int) (Ev.2.length : Int) Dr Bd (eta Ev.1 Ev.2) Cs.flatten) (h2 : a2.toInt = (e : Int)) : Par d 254 [.ref 213, .int a1, .int a2] s (fun v s' => v = none ∧ IFj T s s' ∧ s'.1 64 = s.1 64 ∧ ∃ ws, RIl ar nT wr hw H fx Dr Bd (its ++ ws) s' ∧ (¬ (s'.1 111).toInt = 0 → dn ar (eta Ev.1 Ev.2) (its ++ ws) Cs.flatten)) := by
  cases d with
  | zero => exact Par_0
  | succ d =>
    obtain ⟨M1, -⟩ := RIl_M hI
    refine pb_254 ?_
    unfold ub_254_0
    refine ⟨fun b1 b2 b3 u => b2 = a2 ∧ ∃ (k : Nat) (ws : List Mit), k ≤ es.length ∧ nCh s (es.drop k) b3.toInt ∧ IFj T s u ∧ u.1 64 = s.1 64 ∧ RIl ar nT wr hw H fx Dr Bd (its ++ ws) u ∧ (¬ (u.1 111).toInt = 0 → dn ar (eta Ev.1 Ev.2) (its ++ ws) (Cs.take k).flatten), ⟨rfl, 0, [], Nat.zero_le _, hL, IFj_rf, rfl, by rw [List.append_nil]; exact hI, fun _ => dn_no (fun I hI => by cases hI)⟩, ?_⟩
    rintro b1 b2 b3 u ⟨e2, k, ws, k1, k2, Fu, u64, Iu, k3⟩
    subst e2
    unfold ub_254_2 ub_254_23
    refine ⟨fun hneg => ⟨rfl, Fu, u64, ws, Iu, fun w => ?_⟩, fun hpos => ⟨fun hf => ⟨rfl, Fu, u64, ws, Iu, fun w => absurd hf w⟩, fun hf => ?_⟩⟩
    · have ek : Cs.length ≤ k := by
        cases hdr : es.drop k with
        | nil =>
          have := congrArg List.length hdr
          rw [List.length_drop] at this
          have h0 : es.length - k = 0 := this
          omega
        | cons c cs =>
          rw [hdr] at k2
          have := k2.1
          omega
      have := k3 w
      rw [List.take_of_length_le ek] at this
      exact this
    · cases hdr : es.drop k with
      | nil =>
        rw [hdr] at k2
        exact absurd k2 hpos
      | cons c cs =>
        rw [hdr] at k2
        have hck : es[k]? = some c := by
          have := congrArg List.head? hdr
          rw [List.head?_drop] at this
          exact this
        have hkl := (List.getElem?_eq_some_iff.mp hck).1
        obtain ⟨B, hB⟩ : ∃ B, Cs[k]? = some B := ⟨_, List.getElem?_eq_getElem (by omega)⟩
        have hBm : ∀ I ∈ B, I ∈ Cs.flatten := fun I hI' => List.mem_flatten.mpr ⟨B, List.mem_of_getElem? hB, hI'⟩
        have hz : b3.toInt = c := k2.1.1
        refine Par.imp (ih d u b3 b2 e T (its ++ ws) B (by rw [hz]; exact nNd_j Fu (by omega) (hN k c B hck hB)) (EVn_j Fu hV) (by rw [u64]; exact hT) hT0 Iu (okC_s hBm hC) h2) ?_
        rintro v t ⟨rfl, Ft, t64, us, It, h3⟩
        rw [List.append_assoc] at It h3
        refine ⟨rfl, fun s3 hs3 _ => ⟨rfl, k + 1, ws ++ us, by omega, ?_, ?_, ?_, ?_, fun w => ?_⟩⟩
        · have hd := drop_get hck
          rw [hd] at hdr
          rw [(List.cons.inj hdr).2, hs3, sfr_2, IFj_r Ft (q := 225) (by decide), IFj_r Fu (q := 225) (by decide), hz]
          exact k2.2
        · exact IFj_tr Fu (IFj_tr Ft (by rw [hs3]; exact IFj_64 (T := T)) (Int.le_refl _)) (Int.le_refl _)
        · rw [hs3, sfr_1, if_pos rfl]
          exact u64
        · have F : ∀ q, s3.1 q = if q = 64 then u.1 64 else t.1 q := fun q => by rw [hs3, sfr_1]
          exact RIl_f It (by rw [F, if_neg (by decide)]) (by rw [F, if_neg (by decide)]) (fun q j _ _ _ => by rw [hs3, sfr_2]) (fun j _ _ => by rw [hs3, sfr_2]) (fun w => It.2.2.2.2 (by rw [F, if_neg (by decide)] at w; exact w))
        · have w' : ¬ (t.1 111).toInt = 0 := by
            rw [hs3, sfr_1, if_neg (by decide)] at w
            exact w
          have wu : ¬ (u.1 111).toInt = 0 := hf
          have etk : Cs.take (k + 1) = Cs.take k ++ [B] := by rw [List.take_add_one, hB]; rfl
          rw [etk, List.flatten_append, ← List.append_assoc]
          have g1 := dn_a (ws := us) (k3 wu)
          have g2 := h3 w'
          rw [← List.append_assoc] at g2
          refine dn_app g1 ?_
          have e1 : [B].flatten = B := by rw [List.flatten_cons]; exact List.append_nil B
          rw [e1]
          exact g2
end ZVU
