/-! ===== the reference's methods, run so that a number that leaves its range ends the run ===== -/
def ynf (z : Int) : Bool := decide (-2147483648 ≤ z ∧ z ≤ 2147483647)
theorem ynf_ok {z : Int} (h : ynf z = true) : -2147483648 ≤ z ∧ z ≤ 2147483647 := of_decide_eq_true h
/-- what is asked of an instruction's numbers -/
def yck (i : Instr) (loc : List (Nat × Value)) (st : List Value) : Bool := match i with
  | .iadd => match st with
    | .int y :: .int x :: _ => ynf (x.toInt + y.toInt)
    | _ => true
  | .isub => match st with
    | .int y :: .int x :: _ => ynf (x.toInt - y.toInt)
    | _ => true
  | .imul => match st with
    | .int y :: .int x :: _ => ynf (x.toInt * y.toInt)
    | _ => true
  | .iinc k n => match xlk k loc with
    | some (.int x) => ynf (x.toInt + n)
    | _ => true
  | .iand => match st with
    | .int y :: .int x :: _ => decide (y = 7 ∨ y = 15 → 0 ≤ x.toInt)
    | _ => true
  | .ishr => match st with
    | .int _ :: .int x :: _ => decide (0 ≤ x.toInt)
    | _ => true
  | .idiv => match st with
    | .int y :: .int x :: _ => decide (y = 6 → 0 ≤ x.toInt)
    | _ => true
  | .irem => match st with
    | .int y :: .int x :: _ => decide (y = 6 → 0 ≤ x.toInt)
    | _ => true
  | _ => true
/-- of these nothing is asked -/
def ynk (i : Instr) : Bool := match i with
  | .iadd => false
  | .isub => false
  | .imul => false
  | .iinc _ _ => false
  | .iand => false
  | .ishr => false
  | .idiv => false
  | .irem => false
  | _ => true
theorem ynk_ok {i : Instr} {loc : List (Nat × Value)} {st : List Value} (h : ynk i = true) : yck i loc st = true := by
  cases i <;> first | rfl | cases h
def yCk (i : Instr) (f : xF) : xF := fun c σ => match yck i σ.1 σ.2.1 with
  | true => f c σ
  | false => none
def xmc (ml : Nat) (ret : Option FieldType) (E : xCd) : xCd → xK
  | [] => []
  | e :: r => (e.1, yCk e.2.1 (xIt xL_12 ml ret false E e.1 e.2.1 e.2.2 r)) :: xmc ml ret E r
theorem xmc_drop {ml : Nat} {ret : Option FieldType} {E : xCd} : ∀ (t : Nat) (l : xCd), (xmc ml ret E l).drop t = xmc ml ret E (l.drop t)
  | 0, l => rfl
  | t + 1, [] => by simp [xmc]
  | t + 1, e :: r => xmc_drop t r
def ycL : List (Nat × Option FieldType × xCd) := [(7, some .int, xE_154), (5, none, xE_155), (1, some .boolean, xE_156), (1, some .boolean, xE_157), (1, some .int, xE_158), (1, some .boolean, xE_159), (7, some .int, xE_160), (6, none, xE_161), (10, none, xE_162), (3, none, xE_163), (2, some .boolean, xE_164), (2, some .boolean, xE_165), (1, some .boolean, xE_166), (2, none, xE_167), (3, some .boolean, xE_168), (2, none, xE_169), (1, some .int, xE_170), (2, some .int, xE_171), (2, none, xE_172), (2, some .int, xE_173), (5, some .int, xE_174), (5, some .int, xE_175), (5, some .int, xE_176), (6, some .int, xE_177), (3, some .int, xE_178), (1, none, xE_179), (2, none, xE_180), (8, some .int, xE_181), (4, none, xE_182), (5, none, xE_183), (3, none, xE_184), (1, some .int, xE_185), (4, some .int, xE_186), (7, some .boolean, xE_187), (1, some .int, xE_188), (10, none, xE_189), (6, none, xE_190), (10, some .boolean, xE_191), (6, some .int, xE_192), (6, some .boolean, xE_193), (8, none, xE_194), (12, some .int, xE_195), (10, some .int, xE_196), (10, some .int, xE_197), (7, some .boolean, xE_198), (6, none, xE_199), (5, some .int, xE_200), (4, none, xE_201), (4, none, xE_202), (3, some .int, xE_203), (6, none, xE_204), (4, some .int, xE_205), (4, none, xE_206), (2, none, xE_207), (5, none, xE_208), (3, none, xE_209), (3, none, xE_210), (6, none, xE_211), (8, none, xE_212), (3, none, xE_213), (3, none, xE_214), (5, none, xE_215), (3, none, xE_216), (2, none, xE_217), (4, none, xE_218), (5, none, xE_219), (2, some .boolean, xE_220), (7, none, xE_221), (5, none, xE_222), (5, none, xE_223), (6, some .boolean, xE_224), (3, none, xE_225), (8, none, xE_226), (6, none, xE_227), (6, none, xE_228), (3, none, xE_229), (3, some .int, xE_230), (5, none, xE_231), (1, none, xE_232), (2, some .int, xE_233), (2, some .boolean, xE_234), (1, none, xE_235), (4, some .int, xE_236), (4, some .int, xE_237), (5, some .boolean, xE_238), (4, some .int, xE_239), (6, some .int, xE_240), (9, some .int, xE_241), (3, some .int, xE_242), (6, some .int, xE_243), (9, some .int, xE_244), (8, some .int, xE_245), (3, some .int, xE_246), (3, some .int, xE_247), (1, some .int, xE_248), (1, some .int, xE_249), (8, none, xE_250), (3, some .boolean, xE_251), (7, none, xE_252), (3, none, xE_253), (5, none, xE_254), (7, none, xE_255), (14, none, xE_256), (5, some .int, xE_257), (4, some .int, xE_258), (2, some .int, xE_259), (4, some .int, xE_260), (2, none, xE_261), (1, some .int, xE_262), (7, none, xE_263), (2, none, xE_264), (6, some .int, xE_265), (3, none, xE_266), (4, none, xE_267), (3, some .int, xE_268), (2, some .int, xE_269), (2, some .int, xE_270)]
def ycF (i : Nat) : Option (Nat × Option FieldType × xCd) := match Nat.ble 154 i with
  | true => ycL[i - 154]?
  | false => none
set_option maxRecDepth 20000 in
theorem ycL_xpr : ∀ q ∈ List.zip (xprL.drop 154) ycL, q.1 = xmk xL_12 q.2.1 q.2.2.1 false q.2.2.2 q.2.2.2 := by
  show ∀ q ∈ [(xk_154, (7, some .int, xE_154)), (xk_155, (5, none, xE_155)), (xk_156, (1, some .boolean, xE_156)), (xk_157, (1, some .boolean, xE_157)), (xk_158, (1, some .int, xE_158)), (xk_159, (1, some .boolean, xE_159)), (xk_160, (7, some .int, xE_160)), (xk_161, (6, none, xE_161)), (xk_162, (10, none, xE_162)), (xk_163, (3, none, xE_163)), (xk_164, (2, some .boolean, xE_164)), (xk_165, (2, some .boolean, xE_165)), (xk_166, (1, some .boolean, xE_166)), (xk_167, (2, none, xE_167)), (xk_168, (3, some .boolean, xE_168)), (xk_169, (2, none, xE_169)), (xk_170, (1, some .int, xE_170)), (xk_171, (2, some .int, xE_171)), (xk_172, (2, none, xE_172)), (xk_173, (2, some .int, xE_173)), (xk_174, (5, some .int, xE_174)), (xk_175, (5, some .int, xE_175)), (xk_176, (5, some .int, xE_176)), (xk_177, (6, some .int, xE_177)), (xk_178, (3, some .int, xE_178)), (xk_179, (1, none, xE_179)), (xk_180, (2, none, xE_180)), (xk_181, (8, some .int, xE_181)), (xk_182, (4, none, xE_182)), (xk_183, (5, none, xE_183)), (xk_184, (3, none, xE_184)), (xk_185, (1, some .int, xE_185)), (xk_186, (4, some .int, xE_186)), (xk_187, (7, some .boolean, xE_187)), (xk_188, (1, some .int, xE_188)), (xk_189, (10, none, xE_189)), (xk_190, (6, none, xE_190)), (xk_191, (10, some .boolean, xE_191)), (xk_192, (6, some .int, xE_192)), (xk_193, (6, some .boolean, xE_193)), (xk_194, (8, none, xE_194)), (xk_195, (12, some .int, xE_195)), (xk_196, (10, some .int, xE_196)), (xk_197, (10, some .int, xE_197)), (xk_198, (7, some .boolean, xE_198)), (xk_199, (6, none, xE_199)), (xk_200, (5, some .int, xE_200)), (xk_201, (4, none, xE_201)), (xk_202, (4, none, xE_202)), (xk_203, (3, some .int, xE_203)), (xk_204, (6, none, xE_204)), (xk_205, (4, some .int, xE_205)), (xk_206, (4, none, xE_206)), (xk_207, (2, none, xE_207)), (xk_208, (5, none, xE_208)), (xk_209, (3, none, xE_209)), (xk_210, (3, none, xE_210)), (xk_211, (6, none, xE_211)), (xk_212, (8, none, xE_212)), (xk_213, (3, none, xE_213)), (xk_214, (3, none, xE_214)), (xk_215, (5, none, xE_215)), (xk_216, (3, none, xE_216)), (xk_217, (2, none, xE_217)), (xk_218, (4, none, xE_218)), (xk_219, (5, none, xE_219)), (xk_220, (2, some .boolean, xE_220)), (xk_221, (7, none, xE_221)), (xk_222, (5, none, xE_222)), (xk_223, (5, none, xE_223)), (xk_224, (6, some .boolean, xE_224)), (xk_225, (3, none, xE_225)), (xk_226, (8, none, xE_226)), (xk_227, (6, none, xE_227)), (xk_228, (6, none, xE_228)), (xk_229, (3, none, xE_229)), (xk_230, (3, some .int, xE_230)), (xk_231, (5, none, xE_231)), (xk_232, (1, none, xE_232)), (xk_233, (2, some .int, xE_233)), (xk_234, (2, some .boolean, xE_234)), (xk_235, (1, none, xE_235)), (xk_236, (4, some .int, xE_236)), (xk_237, (4, some .int, xE_237)), (xk_238, (5, some .boolean, xE_238)), (xk_239, (4, some .int, xE_239)), (xk_240, (6, some .int, xE_240)), (xk_241, (9, some .int, xE_241)), (xk_242, (3, some .int, xE_242)), (xk_243, (6, some .int, xE_243)), (xk_244, (9, some .int, xE_244)), (xk_245, (8, some .int, xE_245)), (xk_246, (3, some .int, xE_246)), (xk_247, (3, some .int, xE_247)), (xk_248, (1, some .int, xE_248)), (xk_249, (1, some .int, xE_249)), (xk_250, (8, none, xE_250)), (xk_251, (3, some .boolean, xE_251)), (xk_252, (7, none, xE_252)), (xk_253, (3, none, xE_253)), (xk_254, (5, none, xE_254)), (xk_255, (7, none, xE_255)), (xk_256, (14, none, xE_256)), (xk_257, (5, some .int, xE_257)), (xk_258, (4, some .int, xE_258)), (xk_259, (2, some .int, xE_259)), (xk_260, (4, some .int, xE_260)), (xk_261, (2, none, xE_261)), (xk_262, (1, some .int, xE_262)), (xk_263, (7, none, xE_263)), (xk_264, (2, none, xE_264)), (xk_265, (6, some .int, xE_265)), (xk_266, (3, none, xE_266)), (xk_267, (4, none, xE_267)), (xk_268, (3, some .int, xE_268)), (xk_269, (2, some .int, xE_269)), (xk_270, (2, some .int, xE_270))], q.1 = xmk xL_12 q.2.1 q.2.2.1 false q.2.2.2 q.2.2.2
  exact List.forall_mem_cons.mpr ⟨rfl, List.forall_mem_cons.mpr ⟨rfl, List.forall_mem_cons.mpr ⟨rfl, List.forall_mem_cons.mpr ⟨rfl, List.forall_mem_cons.mpr ⟨rfl, List.forall_mem_cons.mpr ⟨rfl, List.forall_mem_cons.mpr ⟨rfl, List.forall_mem_cons.mpr ⟨rfl, List.forall_mem_cons.mpr ⟨rfl, List.forall_mem_cons.mpr ⟨rfl, List.forall_mem_cons.mpr ⟨rfl, List.forall_mem_cons.mpr ⟨rfl, List.forall_mem_cons.mpr ⟨rfl, List.forall_mem_cons.mpr ⟨rfl, List.forall_mem_cons.mpr ⟨rfl, List.forall_mem_cons.mpr ⟨rfl, List.forall_mem_cons.mpr ⟨rfl, List.forall_mem_cons.mpr ⟨rfl, List.forall_mem_cons.mpr ⟨rfl, List.forall_mem_cons.mpr ⟨rfl, List.forall_mem_cons.mpr ⟨rfl, List.forall_mem_cons.mpr ⟨rfl, List.forall_mem_cons.mpr ⟨rfl, List.forall_mem_cons.mpr ⟨rfl, List.forall_mem_cons.mpr ⟨rfl, List.forall_mem_cons.mpr ⟨rfl, List.forall_mem_cons.mpr ⟨rfl, List.forall_mem_cons.mpr ⟨rfl, List.forall_mem_cons.mpr ⟨rfl, List.forall_mem_cons.mpr ⟨rfl, List.forall_mem_cons.mpr ⟨rfl, List.forall_mem_cons.mpr ⟨rfl, List.forall_mem_cons.mpr ⟨rfl, List.forall_mem_cons.mpr ⟨rfl, List.forall_mem_cons.mpr ⟨rfl, List.forall_mem_cons.mpr ⟨rfl, List.forall_mem_cons.mpr ⟨rfl, List.forall_mem_cons.mpr ⟨rfl, List.forall_mem_cons.mpr ⟨rfl, List.forall_mem_cons.mpr ⟨rfl, List.forall_mem_cons.mpr ⟨rfl, List.forall_mem_cons.mpr ⟨rfl, List.forall_mem_cons.mpr ⟨rfl, List.forall_mem_cons.mpr ⟨rfl, List.forall_mem_cons.mpr ⟨rfl, List.forall_mem_cons.mpr ⟨rfl, List.forall_mem_cons.mpr ⟨rfl, List.forall_mem_cons.mpr ⟨rfl, List.forall_mem_cons.mpr ⟨rfl, List.forall_mem_cons.mpr ⟨rfl, List.forall_mem_cons.mpr ⟨rfl, List.forall_mem_cons.mpr ⟨rfl, List.forall_mem_cons.mpr ⟨rfl, List.forall_mem_cons.mpr ⟨rfl, List.forall_mem_cons.mpr ⟨rfl, List.forall_mem_cons.mpr ⟨rfl, List.forall_mem_cons.mpr ⟨rfl, List.forall_mem_cons.mpr ⟨rfl, List.forall_mem_cons.mpr ⟨rfl, List.forall_mem_cons.mpr ⟨rfl, List.forall_mem_cons.mpr ⟨rfl, List.forall_mem_cons.mpr ⟨rfl, List.forall_mem_cons.mpr ⟨rfl, List.forall_mem_cons.mpr ⟨rfl, List.forall_mem_cons.mpr ⟨rfl, List.forall_mem_cons.mpr ⟨rfl, List.forall_mem_cons.mpr ⟨rfl, List.forall_mem_cons.mpr ⟨rfl, List.forall_mem_cons.mpr ⟨rfl, List.forall_mem_cons.mpr ⟨rfl, List.forall_mem_cons.mpr ⟨rfl, List.forall_mem_cons.mpr ⟨rfl, List.forall_mem_cons.mpr ⟨rfl, List.forall_mem_cons.mpr ⟨rfl, List.forall_mem_cons.mpr ⟨rfl, List.forall_mem_cons.mpr ⟨rfl, List.forall_mem_cons.mpr ⟨rfl, List.forall_mem_cons.mpr ⟨rfl, List.forall_mem_cons.mpr ⟨rfl, List.forall_mem_cons.mpr ⟨rfl, List.forall_mem_cons.mpr ⟨rfl, List.forall_mem_cons.mpr ⟨rfl, List.forall_mem_cons.mpr ⟨rfl, List.forall_mem_cons.mpr ⟨rfl, List.forall_mem_cons.mpr ⟨rfl, List.forall_mem_cons.mpr ⟨rfl, List.forall_mem_cons.mpr ⟨rfl, List.forall_mem_cons.mpr ⟨rfl, List.forall_mem_cons.mpr ⟨rfl, List.forall_mem_cons.mpr ⟨rfl, List.forall_mem_cons.mpr ⟨rfl, List.forall_mem_cons.mpr ⟨rfl, List.forall_mem_cons.mpr ⟨rfl, List.forall_mem_cons.mpr ⟨rfl, List.forall_mem_cons.mpr ⟨rfl, List.forall_mem_cons.mpr ⟨rfl, List.forall_mem_cons.mpr ⟨rfl, List.forall_mem_cons.mpr ⟨rfl, List.forall_mem_cons.mpr ⟨rfl, List.forall_mem_cons.mpr ⟨rfl, List.forall_mem_cons.mpr ⟨rfl, List.forall_mem_cons.mpr ⟨rfl, List.forall_mem_cons.mpr ⟨rfl, List.forall_mem_cons.mpr ⟨rfl, List.forall_mem_cons.mpr ⟨rfl, List.forall_mem_cons.mpr ⟨rfl, List.forall_mem_cons.mpr ⟨rfl, List.forall_mem_cons.mpr ⟨rfl, List.forall_mem_cons.mpr ⟨rfl, List.forall_mem_cons.mpr ⟨rfl, List.forall_mem_cons.mpr ⟨rfl, List.forall_mem_cons.mpr ⟨rfl, List.forall_mem_cons.mpr ⟨rfl, List.forall_mem_cons.mpr ⟨rfl, List.forall_mem_cons.mpr ⟨rfl, List.forall_mem_cons.mpr ⟨rfl, List.forall_mem_cons.mpr ⟨rfl, fun _ h => absurd h List.not_mem_nil⟩⟩⟩⟩⟩⟩⟩⟩⟩⟩⟩⟩⟩⟩⟩⟩⟩⟩⟩⟩⟩⟩⟩⟩⟩⟩⟩⟩⟩⟩⟩⟩⟩⟩⟩⟩⟩⟩⟩⟩⟩⟩⟩⟩⟩⟩⟩⟩⟩⟩⟩⟩⟩⟩⟩⟩⟩⟩⟩⟩⟩⟩⟩⟩⟩⟩⟩⟩⟩⟩⟩⟩⟩⟩⟩⟩⟩⟩⟩⟩⟩⟩⟩⟩⟩⟩⟩⟩⟩⟩⟩⟩⟩⟩⟩⟩⟩⟩⟩⟩⟩⟩⟩⟩⟩⟩⟩⟩⟩⟩⟩⟩⟩⟩⟩⟩⟩
set_option maxRecDepth 20000 in
theorem ycF_xpr {i : Nat} {q : Nat × Option FieldType × xCd} (h : ycF i = some q) : xpr i = some (xmk xL_12 q.1 q.2.1 false q.2.2 q.2.2) := by
  unfold ycF at h
  cases hb : Nat.ble 154 i with
  | false => rw [hb] at h; cases h
  | true =>
    rw [hb] at h
    have h1 := Nat.le_of_ble_eq_true hb
    have h2 : i - 154 < 117 := (List.getElem?_eq_some_iff.mp h).1
    have h3 : i < xprL.length := by
      show i < 272
      omega
    have h4 : xprL[i]? = some xprL[i] := List.getElem?_eq_getElem h3
    have h5 : (xprL.drop 154)[i - 154]? = some xprL[i] := by
      rw [List.getElem?_drop, show 154 + (i - 154) = i by omega]
      exact h4
    have h6 : (List.zip (xprL.drop 154) ycL)[i - 154]? = some (xprL[i], q) := List.getElem?_zip_eq_some.mpr ⟨h5, h⟩
    have h7 := ycL_xpr _ (List.mem_of_getElem? h6)
    unfold xpr
    rw [h4]
    exact congrArg some h7
noncomputable def ycn (calls : xC) (i : Nat) (vs : List Value) (h : xH) : Option xR := match xsg i with
  | some M => match ycF i with
    | some q => match Nat.ble (lg_sl vs).length M.2.2.1 with
      | true => @dite _ (∃ res n, xit calls (xmc q.1 q.2.1 q.2.2 q.2.2) n (some (.inl (xmc q.1 q.2.1 q.2.2 q.2.2, (lv_args 0 vs, [], h, 0, 0)))) = some (.inr res)) (Classical.propDecidable _) (fun hh => some hh.choose) (fun _ => none)
      | false => none
    | none => none
  | none => none
noncomputable def ycx (d : Nat) : xC := Nat.rec (motive := fun _ => xC) (fun _ _ _ => none) (fun _ ih => ycn ih) d
theorem ycn_spec {calls : xC} {i : Nat} {vs : List Value} {h : xH} {res : xR} (hc : ycn calls i vs h = some res) : ∃ M q n, xsg i = some M ∧ ycF i = some q ∧ Nat.ble (lg_sl vs).length M.2.2.1 = true ∧ xit calls (xmc q.1 q.2.1 q.2.2 q.2.2) n (some (.inl (xmc q.1 q.2.1 q.2.2 q.2.2, (lv_args 0 vs, [], h, 0, 0)))) = some (.inr res) := by
  unfold ycn at hc
  cases hM : xsg i with
  | none => rw [hM] at hc; cases hc
  | some M =>
    rw [hM] at hc
    dsimp only at hc
    cases hF : ycF i with
    | none => rw [hF] at hc; cases hc
    | some q =>
      rw [hF] at hc
      dsimp only at hc
      cases hl : Nat.ble (lg_sl vs).length M.2.2.1 with
      | false => rw [hl] at hc; cases hc
      | true =>
        rw [hl] at hc
        dsimp only at hc
        by_cases hh : ∃ res n, xit calls (xmc q.1 q.2.1 q.2.2 q.2.2) n (some (.inl (xmc q.1 q.2.1 q.2.2 q.2.2, (lv_args 0 vs, [], h, 0, 0)))) = some (.inr res)
        · rw [dif_pos hh] at hc
          obtain ⟨n, hn⟩ := hh.choose_spec
          rw [Option.some.inj hc] at hn
          exact ⟨M, q, n, rfl, rfl, hl, hn⟩
        · rw [dif_neg hh] at hc
          cases hc
theorem ycn_of {calls : xC} {i k : Nat} {vs : List Value} {h : xH} {M : xM} {q : Nat × Option FieldType × xCd} {res : xR} (hM : xsg i = some M) (hF : ycF i = some q) (hl : Nat.ble (lg_sl vs).length M.2.2.1 = true) (hr : xit calls (xmc q.1 q.2.1 q.2.2 q.2.2) k (some (.inl (xmc q.1 q.2.1 q.2.2 q.2.2, (lv_args 0 vs, [], h, 0, 0)))) = some (.inr res)) : ycn calls i vs h = some res := by
  unfold ycn
  rw [hM]
  dsimp only
  rw [hF]
  dsimp only
  rw [hl]
  dsimp only
  have hh : ∃ res n, xit calls (xmc q.1 q.2.1 q.2.2 q.2.2) n (some (.inl (xmc q.1 q.2.1 q.2.2 q.2.2, (lv_args 0 vs, [], h, 0, 0)))) = some (.inr res) := ⟨res, k, hr⟩
  rw [dif_pos hh]
  obtain ⟨n, hn⟩ := hh.choose_spec
  rw [xit_one hn hr]
theorem xmc_s {c : xC} {ml : Nat} {ret : Option FieldType} {E : xCd} {e : Nat × Instr × Nat} {l : xCd} {σ : xS} : xstep c (xmc ml ret E E) (some (.inl (xmc ml ret E (e :: l), σ))) = (match yCk e.2.1 (xIt xL_12 ml ret false E e.1 e.2.1 e.2.2 l) c σ with
    | none => none
    | some (.inr res) => some (.inr res)
    | some (.inl z) => some (.inl (xnx (xmc ml ret E E) (xmc ml ret E l) z.1, z.2))) := rfl
theorem yCk_inv {i : Instr} {f : xF} {c : xC} {σ : xS} {z : (Option Nat × xS) ⊕ xR} (h : yCk i f c σ = some z) : yck i σ.1 σ.2.1 = true ∧ f c σ = some z := by
  unfold yCk at h
  cases hb : yck i σ.1 σ.2.1 with
  | false => rw [hb] at h; cases h
  | true =>
    rw [hb] at h
    exact ⟨rfl, h⟩
theorem yCk_of {i : Instr} {f : xF} {c : xC} {σ : xS} {z : (Option Nat × xS) ⊕ xR} (hk : yck i σ.1 σ.2.1 = true) (h : f c σ = some z) : yCk i f c σ = some z := by
  unfold yCk
  rw [hk]
  exact h
/-- the same run with deeper calls -/
theorem xsc_le {c c' : xC} (hc : xLe c c') {ml : Nat} {ret : Option FieldType} {E : xCd} : ∀ (n : Nat) (l : xCd) (σ : xS) (res : xR), xit c (xmc ml ret E E) n (some (.inl (xmc ml ret E l, σ))) = some (.inr res) → xit c' (xmc ml ret E E) n (some (.inl (xmc ml ret E l, σ))) = some (.inr res)
  | 0, l, σ, res, h => by cases h
  | n + 1, [], σ, res, h => by
    rw [xit_s] at h
    have e1 : xstep c (xmc ml ret E E) (some (.inl (xmc ml ret E [], σ))) = none := rfl
    rw [e1, xit_none] at h
    cases h
  | n + 1, e :: l, σ, res, h => by
    rw [xit_s, xmc_s] at h ⊢
    cases hz : yCk e.2.1 (xIt xL_12 ml ret false E e.1 e.2.1 e.2.2 l) c σ with
    | none => rw [hz] at h; rw [xit_none] at h; cases h
    | some z =>
      rw [hz] at h
      obtain ⟨k1, k2⟩ := yCk_inv hz
      rw [yCk_of k1 (xMn_It e.2.1 c c' hc σ z k2)]
      cases z with
      | inr r => exact (xit_done n r).trans ((xit_done n r).symm.trans h)
      | inl q =>
        obtain ⟨a, τ⟩ := q
        cases a with
        | none => exact xsc_le hc n l τ res h
        | some t =>
          dsimp only [xnx] at h ⊢
          rw [xmc_drop] at h ⊢
          exact xsc_le hc n (E.drop t) τ res h
/-- and without what is asked of numbers -/
theorem xsc_mk {c c' : xC} (hc : xLe c c') {ml : Nat} {ret : Option FieldType} {E : xCd} : ∀ (n : Nat) (l : xCd) (σ : xS) (res : xR), xit c (xmc ml ret E E) n (some (.inl (xmc ml ret E l, σ))) = some (.inr res) → xit c' (xmk xL_12 ml ret false E E) n (some (.inl (xmk xL_12 ml ret false E l, σ))) = some (.inr res)
  | 0, l, σ, res, h => by cases h
  | n + 1, [], σ, res, h => by
    rw [xit_s] at h
    have e1 : xstep c (xmc ml ret E E) (some (.inl (xmc ml ret E [], σ))) = none := rfl
    rw [e1, xit_none] at h
    cases h
  | n + 1, e :: l, σ, res, h => by
    have e0 : xstep c' (xmk xL_12 ml ret false E E) (some (.inl (xmk xL_12 ml ret false E (e :: l), σ))) = (match xIt xL_12 ml ret false E e.1 e.2.1 e.2.2 l c' σ with
      | none => none
      | some (.inr res) => some (.inr res)
      | some (.inl z) => some (.inl (xnx (xmk xL_12 ml ret false E E) (xmk xL_12 ml ret false E l) z.1, z.2))) := rfl
    rw [xit_s, xmc_s] at h
    rw [xit_s, e0]
    cases hz : yCk e.2.1 (xIt xL_12 ml ret false E e.1 e.2.1 e.2.2 l) c σ with
    | none => rw [hz] at h; rw [xit_none] at h; cases h
    | some z =>
      rw [hz] at h
      obtain ⟨k1, k2⟩ := yCk_inv hz
      rw [xMn_It e.2.1 c c' hc σ z k2]
      cases z with
      | inr r => exact (xit_done n r).trans ((xit_done n r).symm.trans h)
      | inl q =>
        obtain ⟨a, τ⟩ := q
        cases a with
        | none => exact xsc_mk hc n l τ res h
        | some t =>
          dsimp only [xnx] at h ⊢
          rw [xmc_drop] at h
          rw [xmk_drop]
          exact xsc_mk hc n (E.drop t) τ res h
theorem ycn_le {c c' : xC} (hc : xLe c c') : xLe (ycn c) (ycn c') := by
  intro i vs h res hh
  obtain ⟨M, q, n, h1, h2, h3, h4⟩ := ycn_spec hh
  exact ycn_of h1 h2 h3 (xsc_le hc n _ _ _ h4)
theorem ycx_le1 (d : Nat) : xLe (ycx d) (ycx (d + 1)) := by
  induction d with
  | zero => intro i vs h res hh; cases hh
  | succ d ih => exact ycn_le ih
theorem ycx_mono {d d' : Nat} (h : d ≤ d') : xLe (ycx d) (ycx d') := by
  induction h with
  | refl => exact fun _ _ _ _ h => h
  | step _ ih => exact fun i vs h res hh => ycx_le1 _ i vs h res (ih i vs h res hh)
/-- such a run is a run -/
theorem ycx_le (d : Nat) : xLe (ycx d) (yex d) := by
  induction d with
  | zero => intro i vs h res hh; cases hh
  | succ d ih =>
    intro i vs h res hh
    obtain ⟨M, q, n, h1, h2, h3, h4⟩ := ycn_spec (calls := ycx d) hh
    exact yex_of h1 (ycF_xpr h2) h3 (xsc_mk ih n _ _ _ h4)
theorem ycx_of {d i k : Nat} {vs : List Value} {h : xH} {M : xM} {q : Nat × Option FieldType × xCd} {res : xR} (hM : xsg i = some M) (hF : ycF i = some q) (hl : Nat.ble (lg_sl vs).length M.2.2.1 = true) (hr : xit (ycx d) (xmc q.1 q.2.1 q.2.2 q.2.2) k (some (.inl (xmc q.1 q.2.1 q.2.2 q.2.2, (lv_args 0 vs, [], h, 0, 0)))) = some (.inr res)) : ycx (d + 1) i vs h = some res := ycn_of (calls := ycx d) hM hF hl hr
theorem ycx_spec {d i : Nat} {vs : List Value} {h : xH} {res : xR} (hc : ycx (d + 1) i vs h = some res) : ∃ M q n, xsg i = some M ∧ ycF i = some q ∧ Nat.ble (lg_sl vs).length M.2.2.1 = true ∧ xit (ycx d) (xmc q.1 q.2.1 q.2.2 q.2.2) n (some (.inl (xmc q.1 q.2.1 q.2.2 q.2.2, (lv_args 0 vs, [], h, 0, 0)))) = some (.inr res) := ycn_spec (calls := ycx d) hc
/-! what no run touches -/
def yif (k : Nat) : Bool := match yf[k]? with
  | some (.int _) => true
  | _ => false
def yir (p : Nat) : Bool := match ytab p with
  | some q => !(Nat.beq q.1 1)
  | none => false
def ylr (p : Nat) : Bool := match ytab p with
  | some q => Nat.beq q.1 1
  | none => false
def OUT (s s' : yS) : Prop := (∀ k, yif k = false → s'.1 k = s.1 k) ∧ (∀ p, yir p = false → s'.2.1 p = s.2.1 p) ∧ ∀ p, ylr p = false → s'.2.2 p = s.2.2 p
theorem OUT_rf {s : yS} : OUT s s := ⟨fun _ _ => rfl, fun _ _ => rfl, fun _ _ => rfl⟩
theorem OUT_tr {s s' s'' : yS} (a : OUT s s') (b : OUT s' s'') : OUT s s'' := ⟨fun k h => (b.1 k h).trans (a.1 k h), fun p h => (b.2.1 p h).trans (a.2.1 p h), fun p h => (b.2.2 p h).trans (a.2.2 p h)⟩
theorem OUT_sf {s : yS} {k : Nat} {z v : Int32} (hk : yf[k]? = some (.int z)) : OUT s (sf s k v) := by
  refine ⟨fun q hq => ?_, fun _ _ => rfl, fun _ _ => rfl⟩
  have hne : q ≠ k := fun e => by
    rw [e] at hq
    unfold yif at hq
    rw [hk] at hq
    cases hq
  simp [sf, upd, hne]
theorem OUT_sa {s : yS} {p i t n : Nat} {v : Int32} (hq : ytab p = some (t, n)) (ht : t ≠ 1) : OUT s (sa s p i v) := by
  refine ⟨fun _ _ => rfl, fun q h => ?_, fun _ _ => rfl⟩
  have hne : q ≠ p := fun e => by
    rw [e] at h
    unfold yir at h
    rw [hq] at h
    dsimp only at h
    rw [Bool.not_eq_false'] at h
    exact ht (Nat.eq_of_beq_eq_true h)
  simp [sa, hne]
theorem OUT_sl {s : yS} {p i n : Nat} {v : Int64} (hq : ytab p = some (1, n)) : OUT s (sl s p i v) := by
  refine ⟨fun _ _ => rfl, fun _ _ => rfl, fun q h => ?_⟩
  have hne : q ≠ p := fun e => by
    rw [e] at h
    unfold ylr at h
    rw [hq] at h
    cases h
  simp [sl, hne]
set_option maxRecDepth 20000 in
theorem yh_one {pre post : xH} {s0 s s' : yS} (hp : pre.length = 213) (h : yh pre post s = yh pre post s') (a : OUT s0 s) (b : OUT s0 s') : s = s' := by
  have e1 : s.1 = s'.1 := by
    funext k
    cases hk : yif k with
    | false => exact (a.1 k hk).trans (b.1 k hk).symm
    | true =>
      have q1 := yh_o (post := post) (s := s) hp
      have q2 := yh_o (post := post) (s := s') hp
      rw [h, q2] at q1
      have q3 : yfl s' = yfl s := (Prod.mk.inj (Sum.inr.inj (Option.some.inj q1))).2
      unfold yif at hk
      split at hk
      · rename_i z hz
        have q4 := congrArg (fun l => l[k]?) q3
        unfold yfl at q4
        simp only [List.getElem?_mapIdx, hz, Option.map_some] at q4
        exact (Value.int.inj (Option.some.inj q4)).symm
      · cases hk
  have e2 : s.2.1 = s'.2.1 := by
    funext p
    cases hk : yir p with
    | false => exact (a.2.1 p hk).trans (b.2.1 p hk).symm
    | true =>
      unfold yir at hk
      split at hk
      · rename_i q hq
        have q1 := yh_a (post := post) (s := s) hp hq
        rw [h, yh_a hp hq] at q1
        have q2 := Option.some.inj q1
        obtain ⟨t, n⟩ := q
        rw [Bool.not_eq_true'] at hk
        have ht : ¬ t = 1 := fun e => by
          rw [e] at hk
          cases hk
        unfold ycell at q2
        dsimp only at q2
        split at q2
        · rename_i e
          exact absurd rfl ht
        · exact (Sum.inl.inj (congrArg (fun q => q.2.2) (Sum.inl.inj q2))).symm
      · cases hk
  have e3 : s.2.2 = s'.2.2 := by
    funext p
    cases hk : ylr p with
    | false => exact (a.2.2 p hk).trans (b.2.2 p hk).symm
    | true =>
      unfold ylr at hk
      split at hk
      · rename_i q hq
        have q1 := yh_a (post := post) (s := s) hp hq
        rw [h, yh_a hp hq] at q1
        have q2 := Option.some.inj q1
        obtain ⟨t, n⟩ := q
        have ht := Nat.eq_of_beq_eq_true hk
        dsimp only at ht
        subst ht
        exact (Sum.inl.inj (Sum.inr.inj (congrArg (fun q => q.2.2) (Sum.inl.inj q2)))).symm
      · cases hk
  obtain ⟨s1, s2, s3⟩ := s
  obtain ⟨t1, t2, t3⟩ := s'
  dsimp only at e1 e2 e3
  rw [e1, e2, e3]
