/-! ===== implement, and what is put for parameters ===== -/
theorem bdT_b1 {G : PG} {b1 b2 c : Nat} : bdT G b1 c = bdT G b2 c := by
  have : ∀ b0 (As : List (List Nat)), envS b0 As b1 [] = envS b0 As b2 [] := by
    intro b0 As
    funext c
    unfold envS grp
    split
    · rfl
    · split
      · rfl
      · simp
  unfold bdT
  rw [this]
def sc0 : Nat → Prop := fun _ => False
/-- a closed TYPE of a struct -/
def vSt (G : PG) (V : List Nat) : Prop := okE G sc0 V ∧ ∃ x As, cutT V x As ∧ x / 8 < gT G ∧ ¬ gst G (x / 8) = 0
/-- what is put for the parameters of a scope: closed TYPES, within their bounds -/
def wEnv (G : PG) (sc : Nat → Prop) (τ : Nat → Option (List Nat)) : Prop := (∀ c, c < 1000 → τ c = none) ∧ (∀ c, 5000 ≤ c → τ c = none) ∧ ∀ c, sc c → ∃ A, τ c = some A ∧ okE G sc0 A ∧ ∀ V, vSt G V → impl G V A → impl G V (subs τ (bdT G 0 c))
/-- a scope holds the bounds of its parameters -/
def scC (G : PG) (H : Nat) (sc : Nat → Prop) : Prop := ∀ c, sc c → PC G H c ∧ okE G sc (bdT G 0 c) ∧ (bdT G 0 c).length ≤ 60 ∧ isI G (bdT G 0 c)
theorem wEnv_ok {G : PG} {sc : Nat → Prop} {τ : Nat → Option (List Nat)} {L : List Nat} (hT : gT G ≤ 24) (h : wEnv G sc τ) (hL : okE G sc L) : okS τ L ∧ okE G sc0 (subs τ L) := by
  have hσ : ∀ c, sc c → (∃ A, τ c = some A ∧ okE G sc0 A) ∨ (τ c = none ∧ sc0 c) := by
    intro c hc
    obtain ⟨A, e, k, -⟩ := h.2.2 c hc
    exact Or.inl ⟨A, e, k⟩
  exact ⟨(vE_subs hT hL.2 h.1 hσ).1, okE_subs hT hL h.1 hσ⟩
/-- what a middle TYPE meets, all that are below it meet -/
theorem mid_sub {G : PG} {H : Nat} {sc : Nat → Prop} {τ : Nat → Option (List Nat)} {M I V : List Nat} {x y : Nat} {As Bs : List (List Nat)} (hW : WG G H) (hτ : wEnv G sc τ) (hM : okE G sc M) (hI : okE G sc I) (hcI : cutT I x As) (hxT : x / 8 < 1000) (hx0 : gst G (x / 8) = 0) (hcM : cutT M y Bs) (hyT : y / 8 < 1000) (hm : meets G (x / 8) As M) (hV : vSt G V) (hVM : impl G V (subs τ M)) : impl G V (subs τ I) := by
  have hT := hW.1.1
  obtain ⟨oM, kM⟩ := wEnv_ok hT hτ hM
  obtain ⟨oI, kI⟩ := wEnv_ok hT hτ hI
  have cM := cut_subs hcM oM (hτ.1 _ hyT)
  have cI := cut_subs hcI oI (hτ.1 _ hxT)
  have vx := (okE_cut hcI hI).1
  have vy := (okE_cut hcM hM).1
  have vx : x / 8 < gT G ∧ x % 8 = gfm G (x / 8) := vx.resolve_right (fun w => by omega)
  have vy : y / 8 < gT G ∧ y % 8 = gfm G (y / 8) := vy.resolve_right (fun w => by omega)
  obtain ⟨y', Bs', hc', hmj⟩ := hm
  obtain ⟨e1, e2⟩ := cutT_inj hcM hc'
  subst e1 e2
  have hxh := hW.2.1 (x / 8) vx.1
  -- a head of I, and what M has for it
  have one : ∀ j, j < ghm G (x / 8) → ∃ g cd, isHd G (y / 8) (gwd G (ghf G (x / 8) + j)) g cd ∧ g < H ∧ alk G (ghf G (x / 8) + j) (1000 + 6 * (x / 8)) (As.map (subs τ)) g cd (Bs.map (subs τ)) := by
    intro j hj
    obtain ⟨g, cd, h1, h2⟩ := hmj j hj
    obtain ⟨f1, f2⟩ := hd_fit (As := Bs) hW vy.1 h1 (by rw [hcM.2.2]; exact vy.2)
    exact ⟨g, cd, h1, f2, alk_sub hW (by omega) f2 (Or.inl ⟨x / 8, ⟨vx.1, by omega, by omega⟩, rfl, by rw [hcI.2.2]; exact vx.2⟩) f1 hτ.1 hτ.2.1 h2⟩
  obtain ⟨⟨fV, eV⟩, v, Vs, cV, v1, v2⟩ := id hV
  refine ⟨x, As.map (subs τ), cI, Or.inr ⟨hxT, hx0, v, Vs, cV, Or.inl ⟨by omega, ?_⟩⟩⟩
  obtain ⟨z, Zs, cZ, hz⟩ := hVM
  obtain ⟨e1, e2⟩ := cutT_inj cM cZ
  subst e1 e2
  rcases hz with ⟨w1, w2⟩ | ⟨w1, w2, v', Vs', cV', w3⟩
  · -- a struct
    rw [w2]
    rw [w2] at cV
    obtain ⟨e1, e2⟩ := cutT_inj cV cM
    subst e1 e2
    refine ⟨v, _, cM, fun j hj => ?_⟩
    obtain ⟨g, cd, h1, h2, h3⟩ := one j hj
    exact ⟨g, cd, h1, h3⟩
  · obtain ⟨e1, e2⟩ := cutT_inj cV cV'
    subst e1 e2
    rcases w3 with ⟨w3, w4⟩ | ⟨w3, -⟩
    · obtain ⟨v', Vs', cV', w5⟩ := w4
      obtain ⟨e1, e2⟩ := cutT_inj cV cV'
      subst e1 e2
      refine ⟨v, Vs, cV, fun j hj => ?_⟩
      obtain ⟨g, cd, h1, h2, h3⟩ := one j hj
      rcases h1 with ⟨h1, -⟩ | ⟨-, j', j1, j2, j3, j4, -⟩
      · exact absurd w2 h1
      · obtain ⟨g', cd', k1, k2⟩ := w5 j' j1
        rw [← j2, j3] at k1
        refine ⟨g', cd', k1, alk_tr h3 ?_⟩
        rw [j4, j2]
        exact k2
    · omega
/-- what implements in the program's own scope does so whatever is put -/
theorem impl_sub {G : PG} {H : Nat} {sc : Nat → Prop} {τ : Nat → Option (List Nat)} {S I V : List Nat} (hW : WG G H) (hsc : scC G H sc) (hτ : wEnv G sc τ) (hS : okE G sc S) (hI : okE G sc I) (h : impl G S I) (hV : vSt G V) (hVS : impl G V (subs τ S)) : impl G V (subs τ I) := by
  have hT := hW.1.1
  obtain ⟨x, As, cI, h⟩ := h
  rcases h with ⟨-, rfl⟩ | ⟨h1, h2, y, Bs, cS, h3⟩
  · exact hVS
  · rcases h3 with ⟨h3, h4⟩ | ⟨h3, b1, h4⟩
    · exact mid_sub hW hτ hS hI cI h1 h2 cS h3 h4 hV hVS
    · have vy := (okE_cut cS hS).1
      have vy : y % 8 = 0 ∧ sc (y / 8) := by
        rcases vy with w | w
        · omega
        · exact ⟨w.1, w.2.2⟩
      obtain ⟨A, e, -, kA⟩ := hτ.2.2 _ vy.2
      obtain ⟨-, o2, -, z, Zs, cZ, z1, z2⟩ := hsc _ vy.2
      rw [bdT_b1 (b2 := 0)] at h4
      have : Bs = [] := List.length_eq_zero_iff.mp (by rw [cS.2.2]; exact vy.1)
      have eS : subs τ S = A := by
        rw [cS.1, this, subs_cons, sub_some e]
        exact List.append_nil A
      rw [eS] at hVS
      exact mid_sub hW hτ o2 hI cI h1 h2 cZ (by omega) h4 hV (kA V hV hVS)
theorem scHg_d {G : PG} {d h c : Nat} (hd : inH G d h) (h1 : scDg G d c) : scHg G h c := Or.inr (Or.inl ⟨d, hd, h1⟩)
/-- the scope of a type, of a head -/
theorem scC_d {G : PG} {H d : Nat} (hW : WG G H) (hd : d < gT G) : scC G H (scDg G d) := by
  rintro c ⟨k, k1, rfl⟩
  have h6 := (hW.2.1 d hd).1
  have hT := hW.1.1
  have e1 : (1000 + 6 * d + k - 1000) / 6 = d := by omega
  have e2 : (1000 + 6 * d + k - 1000) % 6 = k := by omega
  have : bdT G 0 (1000 + 6 * d + k) = gfb G d k := by
    unfold bdT
    rw [if_pos (by omega), e1, e2]
  rw [this]
  refine ⟨Or.inl ⟨by omega, by omega, by rw [e1]; exact hd, by rw [e1, e2]; exact k1⟩, (hW.2.2.2.1 d hd k k1)⟩
theorem prm_env {G : PG} {f c b1 : Nat} (h : scDg G (gso G f) c) : ∃ k, k < gfm G (gso G f) ∧ envS (1000 + 6 * gso G f) (prm f (gfm G (gso G f))) b1 [] c = some [8 * (4000 + 6 * f + k)] ∧ c = 1000 + 6 * gso G f + k := by
  obtain ⟨k, k1, rfl⟩ := h
  refine ⟨k, k1, envS_1 (by omega) ?_, rfl⟩
  unfold grp prm
  rw [if_pos (by omega), show 1000 + 6 * gso G f + k - (1000 + 6 * gso G f) = k by omega, List.getElem?_map, List.getElem?_range k1]
  rfl
theorem okE_1 {G : PG} {sc : Nat → Prop} {c : Nat} (h : sc c) (hc : 1000 ≤ c) : okE G sc [8 * c] := by
  refine ⟨⟨by decide, ?_⟩, fun x hx => ?_⟩
  · rw [show 1 - 1 + 8 * c % 8 = 0 by omega]
    rfl
  · rw [List.mem_singleton.mp hx]
    exact Or.inr ⟨by omega, by omega, by rw [show 8 * c / 8 = c by omega]; exact h⟩
theorem scC_h {G : PG} {H h : Nat} (hW : WG G H) (hh : h < H) : scC G H (scHg G h) := by
  have hT := hW.1.1
  have hF := hW.1.2.1
  have hH := hW.1.2.2
  rintro c (⟨k, k1, rfl⟩ | ⟨d, d1, d2⟩ | ⟨f, f1, f2, k, k1, rfl⟩)
  · have h6 := (hW.2.2.1 h hh).1
    have e1 : (2000 + 6 * h + k - 2000) / 6 = h := by omega
    have e2 : (2000 + 6 * h + k - 2000) % 6 = k := by omega
    have : bdT G 0 (2000 + 6 * h + k) = ghb G h k := by
      unfold bdT
      rw [if_neg (by omega), if_pos (by omega), e1, e2]
    rw [this]
    exact ⟨Or.inr (Or.inl ⟨by omega, by omega, by rw [e1]; exact hh, by rw [e1, e2]; exact k1⟩), (hW.2.2.2.2.2.1 h hh).1 k k1⟩
  · obtain ⟨p1, p2, p3, p4⟩ := scC_d hW d1.1 c d2
    exact ⟨p1, okE_mo p2 (fun c hc => scHg_d d1 hc), p3, p4⟩
  · obtain ⟨g1, g2, g3, g4⟩ := hW.2.2.2.2.2.2.1 f f1
    have h6 := (hW.2.1 _ g2).1
    have e1 : (4000 + 6 * f + k - 4000) / 6 = f := by omega
    have e2 : (4000 + 6 * f + k - 4000) % 6 = k := by omega
    have : bdT G 0 (4000 + 6 * f + k) = subs (envS (1000 + 6 * gso G f) (prm f (gfm G (gso G f))) 0 []) (gfb G (gso G f) k) := by
      unfold bdT
      rw [if_neg (by omega), if_neg (by omega), e1, e2]
    rw [this]
    obtain ⟨b1, b2, z, Zs, b3, b4, b5⟩ := hW.2.2.2.1 _ g2 k (by omega)
    have hσ : ∀ c, scDg G (gso G f) c → (∃ A, envS (1000 + 6 * gso G f) (prm f (gfm G (gso G f))) 0 [] c = some A ∧ okE G (scHg G h) A) ∨ (envS (1000 + 6 * gso G f) (prm f (gfm G (gso G f))) 0 [] c = none ∧ scHg G h c) := by
      intro c hc
      obtain ⟨k', q1, q2, -⟩ := prm_env (b1 := 0) hc
      exact Or.inl ⟨_, q2, okE_1 (Or.inr (Or.inr ⟨f, f1, f2, k', by omega, rfl⟩)) (by omega)⟩
    refine ⟨Or.inr (Or.inr ⟨by omega, by omega, by rw [e1]; exact f1, by rw [e1]; exact g2, by rw [e1, e2]; omega⟩), okE_subs hT b1 (fun c hc => envS_lt hc) hσ, ?_, z, _, cut_subs b3 (vE_subs hT b1.2 (fun c hc => envS_lt hc) hσ).1 (envS_lt (by omega)), b4, b5⟩
    rw [subs_len1 env_prm1]
    exact b2
theorem scC_0 {G : PG} {H : Nat} : scC G H sc0 := fun c hc => absurd hc id
/-- implement's subject -/
theorem ok_Sub {G : PG} {T H : Nat} {sc : Nat → Prop} {S : List Nat} (hW : WG G H) (hT : gT G = T) (hsc : scC G H sc) (hS : okE G sc S) : okSub G T H S := by
  obtain ⟨y, Bs, cS⟩ := cutT_ex hS.1
  rcases (okE_cut cS hS).1 with ⟨w1, w2⟩ | ⟨w1, w2, w3⟩
  · have := (hW.2.1 _ w1).1
    exact ⟨y, Bs, cS, by rw [cS.2.2]; omega, Or.inl (by omega)⟩
  · obtain ⟨p1, p2, -, z, Zs, cz, z1, z2⟩ := hsc _ w3
    refine ⟨y, Bs, cS, by rw [cS.2.2]; omega, Or.inr ⟨p1, fun b1 => ⟨z, Zs, by rw [bdT_b1 (b2 := 0)]; exact cz, ?_, by omega⟩⟩⟩
    have vz := (okE_cut cz p2).1
    have := (hW.2.1 _ z1).1
    rw [cz.2.2]
    rcases vz with w | w <;> omega
