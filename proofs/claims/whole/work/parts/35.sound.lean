def z_ini (P : zP) : Bool := decide ((z_nm P).name = "<init>")
/-- what the tables say of a call -/
def z_vP (own : String) (idx y : Nat) : Prop := ∃ P, z_at zPG y = some P ∧ (parseMethodDescriptor (z_nm P).desc).map (fun d => d.parameters.length) = some (z_na P - 1) ∧ 1 ≤ z_na P ∧ (∃ T N, zCl[z_ci P]? = some ((z_nm P).cls, T, N)) ∧
      Cond.instanceMethod (z_nm P) ∈ zWS ∧ Cond.selects (z_nm P).cls (z_nm P) (z_nm P) ∈ zWS ∧ Cond.initialized (z_nm P).cls ∈ zWS ∧ (Cond.methodLink own idx (z_nm P) ∈ zWS ∨ ∃ host, (own, idx, z_nm P, host) ∈ zMN)
def z_iP (own : String) (idx y : Nat) : Prop := ∃ P, z_at zPG y = some P ∧ (parseMethodDescriptor (z_nm P).desc).map (fun d => d.parameters.length) = some (z_na P - 1) ∧ 1 ≤ z_na P ∧ (z_nm P).name = "<init>" ∧ z_rt P = none ∧
      Cond.instanceMethod (z_nm P) ∈ zWS ∧ Cond.initialized (z_nm P).cls ∈ zWS ∧ (Cond.methodLink own idx (z_nm P) ∈ zWS ∨ ∃ host, (own, idx, z_nm P, host) ∈ zMN)
def z_sP (own : String) (idx y : Nat) : Prop := ∃ P, z_at zPG y = some P ∧ (parseMethodDescriptor (z_nm P).desc).map (fun d => d.parameters.length) = some (z_na P) ∧
      Cond.static (z_nm P) ∈ zWS ∧ Cond.initialized (z_nm P).cls ∈ zWS ∧ (Cond.methodLink own idx (z_nm P) ∈ zWS ∨ ∃ host, (own, idx, z_nm P, host) ∈ zMN)
def z_jP (own : String) (idx y : Nat) : Prop := ∃ PX, z_at zPG y = some PX ∧ (parseMethodDescriptor (z_nm PX).desc).map (fun d => d.parameters.length) = some (z_na PX - 1) ∧ 1 ≤ z_na PX ∧ Cond.methodLink own idx (z_nm PX) ∈ zWS ∧
      ((z_nm PX).cls ≠ "java/lang/invoke/MethodHandle" ∧ (z_nm PX).cls ≠ "java/lang/invoke/VarHandle") ∧
      ∀ ci t, z_face y ci = some t → ∃ P T N, z_at zPG t = some P ∧ z_na P = z_na PX ∧ zCl[ci]? = some ((z_nm P).cls, T, N) ∧ Cond.selects (z_nm P).cls (z_nm PX) (z_nm P) ∈ zWS ∧ Cond.instanceMethod (z_nm P) ∈ zWS ∧ Cond.initialized (z_nm P).cls ∈ zWS ∧ ((z_nm P).cls, z_nm PX, z_nm P) ∈ zFW
def z_okC (own : String) (E : zE) : Prop := match E.2.1 with
  | .invokevirtual idx => E.2.2.1 = 1 ∧ z_vP own idx E.2.2.2
  | .invokespecial idx => E.2.2.1 < 3 → E.2.2.1 = 1 ∧ z_iP own idx E.2.2.2
  | .invokestatic idx => E.2.2.1 < 3 → E.2.2.1 = 0 ∧ z_sP own idx E.2.2.2
  | .invokeinterface idx _ => E.2.2.1 = 2 ∧ z_jP own idx E.2.2.2
  | _ => True
/-- what the tables say of a method -/
def z_body (P : zP) : Prop := (1 ≤ z_fb P ∧ 32 ≤ z_lb P) ∧ ∀ E ∈ z_cd P, z_okE (z_nm P).cls (z_ci P) (z_ini P) (z_by P) E ∧ z_okC (z_nm P).cls E
def z_meth (P : zP) : Prop := plainName (z_nm P).cls = true ∧ Cond.code (z_nm P) (z_by P) (z_mL P) (z_rt P) ∈ zWS ∧ ((z_nm P).cls ≠ "java/lang/invoke/MethodHandle" ∧ (z_nm P).cls ≠ "java/lang/invoke/VarHandle") ∧ z_body P
def z_rm (P : zP) : Room := { frames := z_fb P, cells := z_mc P, slots := z_ms P, locals := z_lb P }
def z_B (D : va_G) (cA : Nat → ClassId) (F : Nat → Prop) (sh : List zS) (M : Nat → Nat → Int32) (u : Nat → Nat) (t : State) : Prop := va_P D zCl (z_W u cA sh M) t.heap ∧ va_K D zCl (z_ty cA) t ∧ va_D F (z_W u cA sh M)
def z_Pre (D : va_G) (cA : Nat → ClassId) (A : Nat → Nat) (sh : List zS) (M : Nat → Nat → Int32) (sz : Nat) (U : State) : Prop := U.heap.size = sz ∧ va_P D zCl (z_W A cA sh M) U.heap ∧ va_K D zCl (z_ty cA) U ∧ va_D (fun _ => True) (z_W A cA sh M) ∧ z_N U
def z_post (A : Nat → Nat) (sh sh' : List zS) (u : Nat → Nat) : Prop := z_ag sh.length A u ∧ (sh'.length = sh.length → u = A)
def z_Q (rv : Option Value) (D : va_G) (cA : Nat → ClassId) (F : Nat → Prop) (A : Nat → Nat) (sh sh' : List zS) (M : Nat → Nat → Int32) : Array Value → State → Outcome → State → Prop := match rv with
  | some (.int v) => va_Qi (fun r u => r = v ∧ z_post A sh sh' u) (z_B D cA F sh' M) F
  | none => va_Qv (fun u => z_post A sh sh' u) (z_B D cA F sh' M) F
  | _ => fun _ _ _ _ => True
def z_Met (l : Launch) (P : zP) (as : List Value) (A : Nat → Nat) (D : va_G) (cA : Nat → ClassId) (sh : List zS) (M : Nat → Nat → Int32) (rv : Option Value) (sh' : List zS) (M' : Nat → Nat → Int32) (sz : Nat) : Prop :=
  Met l (z_nm P) (Cond.code (z_nm P) (z_by P) (z_mL P) (z_rt P) :: zWS) (z_rm P) (va_Pc (as.map (z_val A)) (z_Pre D cA A sh M sz)) (z_Q rv D cA (va_A (z_W A cA sh M) sz) A sh sh' M') (z_mc P) (z_ms P) (va_A (z_W A cA sh M) sz)
def z_hf : Prop := ∀ q ∈ zFW, q.2.1.cls ≠ "java/lang/invoke/MethodHandle" ∧ q.2.1.cls ≠ "java/lang/invoke/VarHandle"
def z_good : Prop := ∀ w ∈ zWS, (w.onTables && w.keeps) = true ∨ ∃ ty, w = .arrayClass ty
theorem z_goodIn (hg : z_good) {ws : List Cond} (h : ∀ w ∈ ws, w ∈ zWS) : GoodIn zWS ws := fun w hw => ⟨h w hw, hg w (h w hw)⟩
/-- what may follow a return -/
def z_Rt (P : zP) (p : Program) (l : Launch) (e : Env) (R : Room) (s : State) (mi : MethodId) (args : Array Value) (below : List Frame) (meth : Method) (c : Code) (Q : State → Prop) (D : va_G) (cA : Nat → ClassId) (F : Nat → Prop) (H0 : Heap) (A : Nat → Nat) (sh : List zS) (rv : Option Value) (sh' : List zS) (M : Nat → Nat → Int32) : Prop :=
  ∀ (pc : Nat) (A' : Nat → Nat) (ls : Array Slot) (H : Heap) (locs : List Loc) (kc ks : Nat), z_ag sh.length A A' → sh.length ≤ sh'.length → (sh'.length = sh.length → A' = A) → z_wd D cA F H0 A' sh' M H locs → kc ≤ z_mc P → ks ≤ z_ms P →
    (∀ v, rv = some (.int v) → decode (z_by P) pc = .ok (.ireturn, 1) → z_retOk (z_rt P) v = true → W p l e R s mi args below meth c H locs kc ks Q (F0 mi pc ls [.int v])) ∧
    (rv = none → decode (z_by P) pc = .ok (.return_, 1) → z_rt P = none → W p l e R s mi args below meth c H locs kc ks Q (F0 mi pc ls []))
theorem z_Rt.next {P : zP} {p : Program} {l : Launch} {e : Env} {R : Room} {s : State} {mi : MethodId} {args : Array Value} {below : List Frame} {meth : Method} {c : Code} {Q : State → Prop} {D : va_G} {cA : Nat → ClassId} {F : Nat → Prop} {H0 : Heap} {A A1 : Nat → Nat} {sh sh1 : List zS} {rv : Option Value} {sh' : List zS} {M : Nat → Nat → Int32}
    (h : z_Rt P p l e R s mi args below meth c Q D cA F H0 A sh rv sh' M) (h1 : z_ag sh.length A A1) (h2 : sh.length ≤ sh1.length) (h3 : sh1.length = sh.length → A1 = A) : z_Rt P p l e R s mi args below meth c Q D cA F H0 A1 sh1 rv sh' M := by
  intro pc A' ls H locs kc ks a1 a2 a3 a4 a5 a6
  refine h pc A' ls H locs kc ks (z_ag_tr h1 a1 h2) (Nat.le_trans h2 a2) (fun q => ?_) a4 a5 a6
  have e1 : sh1.length = sh.length := by omega
  rw [a3 (by omega), h3 e1]
section ZSound
variable {μ : Type} {gt : μ → Nat → Nat → Int32} {st : μ → Nat → Nat → Int32 → μ} {nw : μ → Nat → μ} {cp : μ → Nat → Nat → Nat → Nat → Nat → μ}
/-- the machine with fuel n is followed by the machine of the claim -/
def z_Snd (gt : μ → Nat → Nat → Int32) (st : μ → Nat → Nat → Int32 → μ) (nw : μ → Nat → μ) (cp : μ → Nat → Nat → Nat → Nat → Nat → μ) (n : Nat) : Prop :=
  ∀ (scr : Option (Nat × (Nat → Int32))) (P : zP) (pc : Nat) (loc : List (Option Value)) (stk : List Value) (sh : List zS) (m : μ) (kc ks : Nat) (rv : Option Value) (sh' : List zS) (m' : μ), z_ex gt st nw cp n scr P pc loc stk sh m kc ks = some (rv, sh', m') → z_body P →
  ∀ (p : Program) (l : Launch) (e : Env) (R : Room) (s : State) (mi : MethodId) (args : Array Value) (below : List Frame) (meth : Method) (c : Code) (H H0 : Heap) (locs : List Loc) (Q : State → Prop) (D : va_G) (cA : Nat → ClassId) (F : Nat → Prop) (A : Nat → Nat) (ls : Array Slot),
    z_fix p s mi args meth c (z_nm P).cls (z_ini P) (z_by P) (z_mL P) → va_K D zCl (z_ty cA) s → (∀ q, H0.size ≤ q → F q) → (z_fb P ≤ R.frames ∧ z_lb P ≤ R.locals ∧ z_mc P ≤ R.cells ∧ z_ms P ≤ R.slots) →
    (∀ L xs, scr = some (L, xs) → va_X (A 1000000) L xs s H0 ∧ A 1000000 < H0.size ∧ ¬ F (A 1000000)) → (kc ≤ z_mc P ∧ ks ≤ z_ms P) → z_Loc A loc ls (z_mL P) → z_wd D cA F H0 A sh (gt m) H locs →
    z_Rt P p l e R s mi args below meth c Q D cA F H0 A sh rv sh' (gt m') → W p l e R s mi args below meth c H locs kc ks Q (F0 mi pc ls (stk.map (z_val A)))
/-- a method's contract out of a run from its entry -/
theorem z_mk {n : Nat} (IH : z_Snd gt st nw cp n) {P : zP} {as : List Value} {sh : List zS} {m : μ} {rv : Option Value} {sh' : List zS} {m' : μ} (h : z_ex gt st nw cp n none P 0 (z_ent as (z_mL P)) [] sh m 0 0 = some (rv, sh', m')) (hM : z_meth P) (hl : (z_sl as).length ≤ z_mL P)
    (l : Launch) (A : Nat → Nat) (D : va_G) (cA : Nat → ClassId) (sz : Nat) : z_Met l P as A D cA sh (gt m) rv sh' (gt m') sz := by
  refine Met.ofW (cc := z_by P) (maxL := z_mL P) (ret := z_rt P) hM.1 rfl ?_
  intro p e s mi args below meth c s₁ B hml hv
  obtain ⟨rfl, hsz, hP, hK, hD0, hN⟩ := hv
  have hx := B.exec
  have hb := B.bytes
  have hr := B.returns
  have hts := atoms_spec (ws := Cond.code (z_nm P) (z_by P) (z_mL P) (z_rt P) :: zWS) B.pre
  have hown : s.vm.findClass (z_nm P).cls = some mi.cls := findClass_of_methodNamed B.named
  have hlocks := B.notSynchronized
  have hin : meth.name = (z_nm P).name := (name_of_methodNamed B.named B.method).1
  subst hsz
  have hD := hD0.self (sz := s.heap.size)
  rw [lg_entry_eq]
  refine IH none P 0 (z_ent as (z_mL P)) [] sh m 0 0 rv sh' m' h hM.2.2.2 p l e (headSpec (Cond.code (z_nm P) (z_by P) (z_mL P) (z_rt P) :: zWS) (z_rm P)).room s mi _ below meth c s.heap s.heap [] _ D cA (va_A (z_W A cA sh (gt m)) s.heap.size) A _
    ⟨hx, hb, hml, hown, fun w hw => hts w (List.mem_cons_of_mem _ hw), hN, fun q => hin.trans (of_decide_eq_true q)⟩ hK (fun q h => Or.inr h) ⟨Nat.le_refl _, Nat.le_refl _, Nat.le_refl _, Nat.le_refl _⟩ (fun _ _ h => by cases h) ⟨Nat.zero_le _, Nat.zero_le _⟩ (z_ent_Loc as A hl) ⟨hP, hD, va_S.rf⟩ ?_
  intro pc A' ls H locs kc ks a1 a2 a3 a4 a5 a6
  obtain ⟨hP1, hD1, hS1⟩ := a4
  refine ⟨fun v hv hdg hro => ?_, fun hv hdg hrn => ?_⟩
  · subst hv
    refine W.widen a5 a6 ?_
    have hq : ∀ t : State, t.heap = H → s.WarmedH t.vm → z_Q (some (.int v)) D cA (va_A (z_W A cA sh (gt m)) s.heap.size) A sh sh' (gt m') ((as.map (z_val A)).toArray) s (.returned (some (.int v))) t := fun t ht hW =>
      ⟨⟨v, A', rfl, ⟨rfl, a1, a3⟩, by rw [ht]; exact hP1, va_K.moved hW.alike hK, hD1⟩, hS1.F ht⟩
    unfold z_retOk at hro
    split at hro
    · rename_i hrt
      exact W.iret hx hb (hr.trans hrt) hq hS1.2.2 hdg
    · rename_i hrt
      refine W.zret (ty := .boolean) hx hb (hr.trans hrt) ?_ hq hS1.2.2 hdg
      simp only [Bool.or_eq_true, decide_eq_true_eq] at hro
      rcases hro with rfl | rfl <;> decide
    · cases hro
  · subst hv
    refine W.widen a5 a6 ?_
    exact W.vret hx hb (hr.trans hrn) (fun t ht hW => ⟨⟨A', rfl, ⟨a1, a3⟩, by rw [ht]; exact hP1, va_K.moved hW.alike hK, hD1⟩, hS1.F ht⟩) hS1.2.2 hdg
theorem z_ex_rv : ∀ (n : Nat) (scr : Option (Nat × (Nat → Int32))) (P : zP) (pc : Nat) (loc : List (Option Value)) (stk : List Value) (sh : List zS) (m : μ) (kc ks : Nat) (q : Option Value × List zS × μ), z_ex gt st nw cp n scr P pc loc stk sh m kc ks = some q → q.1 = none ∨ ∃ v, q.1 = some (.int v) := by
  intro n
  induction n with
  | zero => intro scr P pc loc stk sh m kc ks q h; cases h
  | succ n IH =>
    intro scr P pc loc stk sh m kc ks q h
    rw [z_ex_s] at h
    unfold z_F at h
    split at h
    · cases h
    · split at h
      · replace h := z_i_v h
        obtain ⟨v, r, rfl, h⟩ := h
        split at h
        · cases h
          exact Or.inr ⟨v, rfl⟩
        · cases h
      · split at h
        · cases h
          exact Or.inl rfl
        · cases h
      · split at h
        · cases h
        · split at h
          · split at h
            · cases h
            · split at h
              · exact IH _ _ _ _ _ _ _ _ _ _ h
              · cases h
          · cases h
      · split at h
        · cases h
        · exact IH _ _ _ _ _ _ _ _ _ _ h
theorem z_ex_nil {n : Nat} {scr : Option (Nat × (Nat → Int32))} {P : zP} {pc : Nat} {loc : List (Option Value)} {stk : List Value} {sh : List zS} {m : μ} {kc ks : Nat} (h : z_cd P = []) : z_ex gt st nw cp n scr P pc loc stk sh m kc ks = none := by
  cases n with
  | zero => rfl
  | succ n =>
    rw [z_ex_s]
    unfold z_F
    rw [h]
    rfl
theorem z_okE_dec {own : String} {oc : Nat} {ini : Bool} {cc : ByteArray} {E : zE} (h : z_okE own oc ini cc E) (hi : ∀ d lo hi o, E.2.1 ≠ .tableswitch d lo hi o) : decode cc E.1 = .ok (E.2.1, z_ln E.2.1) := by
  obtain ⟨pc, i, x, y⟩ := E
  cases i <;> first | exact h.1 | exact absurd rfl (hi _ _ _ _)
theorem z_kd0 {i : Instr} {x : Nat} (h : z_kd i x = 0) : i = .ireturn := by
  by_cases hx : x < 3 <;> cases i <;> first | rfl | (simp [z_kd, hx] at h; done)
theorem z_kd1 {i : Instr} {x : Nat} (h : z_kd i x = 1) : i = .return_ := by
  by_cases hx : x < 3 <;> cases i <;> first | rfl | (simp [z_kd, hx] at h; done)
theorem z_kd2 {i : Instr} {x : Nat} (h : z_kd i x = 2) : (∃ k, i = .invokevirtual k) ∨ (∃ k j, i = .invokeinterface k j) ∨ (x < 3 ∧ ∃ k, i = .invokespecial k) ∨ (x < 3 ∧ ∃ k, i = .invokestatic k) := by
  cases i
  case invokevirtual k => exact Or.inl ⟨k, rfl⟩
  case invokeinterface k j => exact Or.inr (Or.inl ⟨k, j, rfl⟩)
  case invokespecial k =>
    refine Or.inr (Or.inr (Or.inl ⟨?_, k, rfl⟩))
    by_cases hx : x < 3
    · exact hx
    · simp [z_kd, hx] at h
  case invokestatic k =>
    refine Or.inr (Or.inr (Or.inr ⟨?_, k, rfl⟩))
    by_cases hx : x < 3
    · exact hx
    · simp [z_kd, hx] at h
  all_goals cases h
theorem z_tgt_v {E : zE} {stk : List Value} {sh : List zS} {T : Nat × zP} (h : z_tgt E stk sh = some T) : (E.2.2.1 = 0 ∧ z_at zPG E.2.2.2 = some T.2) ∨ (E.2.2.1 = 1 ∧ z_at zPG E.2.2.2 = some T.2 ∧ ∃ q rs, z_at stk (z_na T.2 - 1) = some (.ref q) ∧ z_at sh q = some (0, z_ci T.2, rs)) ∨
    (E.2.2.1 = 2 ∧ ∃ PX ci q rs, z_at zPG E.2.2.2 = some PX ∧ z_at stk (z_na PX - 1) = some (.ref q) ∧ z_at sh q = some (0, ci, rs) ∧ z_face E.2.2.2 ci = some T.1 ∧ z_at zPG T.1 = some T.2) := by
  unfold z_tgt at h
  split at h
  · cases h
  · rename_i q hq
    split at h
    · cases h
      rename_i hx
      exact Or.inl ⟨hx, hq⟩
    · rename_i hx
      split at h
      · rename_i a ha
        split at h
        · rename_i ci rs hs
          split at h
          · rename_i hci
            cases h
            subst hci
            exact Or.inr (Or.inl ⟨hx, hq, a, rs, ha, hs⟩)
          · cases h
        · cases h
      · cases h
    · rename_i hx
      split at h
      · rename_i a ha
        split at h
        · rename_i ci rs hs
          split at h
          · rename_i t ht
            split at h
            · rename_i q' hq'
              cases h
              exact Or.inr (Or.inr ⟨hx, q, ci, a, rs, hq, ha, hs, ht, hq'⟩)
            · cases h
          · cases h
        · cases h
      · cases h
    · cases h
theorem z_split {stk : List Value} {k : Nat} {v : Value} (h1 : 1 ≤ k) (h : z_at stk (k - 1) = some v) : stk = stk.take (k - 1) ++ v :: stk.drop k ∧ (stk.take k).reverse = v :: (stk.take (k - 1)).reverse ∧ (stk.take (k - 1)).length = k - 1 := by
  rw [z_at_eq] at h
  have hl := (List.getElem?_eq_some_iff.mp h).1
  obtain ⟨j, rfl⟩ : ∃ j, k = j + 1 := ⟨k - 1, by omega⟩
  simp only [Nat.add_sub_cancel] at h hl ⊢
  have e1 : stk.take (j + 1) = stk.take j ++ [v] := by rw [List.take_succ, h]; rfl
  refine ⟨?_, by rw [e1]; simp, by simp; omega⟩
  conv => lhs; rw [← List.take_append_drop (j + 1) stk, e1]
  simp
section ZBack
variable {p : Program} {l : Launch} {e : Env} {R : Room} {s : State} {mi : MethodId} {args : Array Value} {below : List Frame} {meth : Method} {c : Code} {H H0 : Heap} {locs : List Loc} {Q : State → Prop} {D : va_G} {cA : Nat → ClassId} {F F1 : Nat → Prop} {A : Nat → Nat} {ls : Array Slot} {kc ks mc1 ms1 pc : Nat} {st0 rest : List Value} {sh sh1 : List zS} {M1 : Nat → Nat → Int32} {rv : Option Value} {a : Array Value}
theorem z_back3 (hrv : rv = none ∨ ∃ v, rv = some (.int v)) (hr : va_Run p l e R s mi args below meth c H locs kc ks mc1 ms1 (F0 mi pc ls st0) rest (z_Q rv D cA F1 A sh sh1 M1 a) F1) (hS : va_S F H0 H locs) (hFF : ∀ q, F1 q → F q)
    (kk : ∀ (A' : Nat → Nat) (H' : Heap) (locs' : List Loc), z_ag sh.length A A' → (sh1.length = sh.length → A' = A) → z_wd D cA F H0 A' sh1 M1 H' locs' → W p l e R s mi args below meth c H' locs' (kc + mc1) (ks + ms1) Q (F0 mi (pc + 3) ls (rv.toList ++ rest))) :
    W p l e R s mi args below meth c H locs kc ks Q (F0 mi pc ls st0) := by
  rcases hrv with rfl | ⟨v, rfl⟩
  · have hr : va_Run p l e R s mi args below meth c H locs kc ks mc1 ms1 (F0 mi pc ls st0) rest (va_Qv (fun u => z_post A sh sh1 u) (z_B D cA F1 sh1 M1) F1 a) F1 := hr
    refine va_callv hr hS (fun q _ h => hFF q h) hFF (fun u t H1 locs1 ht hvm hp hB hz hk1 hS1 => ?_)
    obtain ⟨hP, hK, hD⟩ := hB
    rw [ht] at hP
    exact kk u H1 locs1 hp.1 hp.2 ⟨hP, hD.weaken (fun _ q _ h => hFF q.1 h), hS1⟩
  · have hr : va_Run p l e R s mi args below meth c H locs kc ks mc1 ms1 (F0 mi pc ls st0) rest (va_Qi (fun r u => r = v ∧ z_post A sh sh1 u) (z_B D cA F1 sh1 M1) F1 a) F1 := hr
    refine va_calli hr hS (fun q _ h => hFF q h) hFF (fun r u t H1 locs1 ht hvm hp hB hz hk1 hS1 => ?_)
    obtain ⟨hP, hK, hD⟩ := hB
    obtain ⟨rfl, hp⟩ := hp
    rw [ht] at hP
    exact kk u H1 locs1 hp.1 hp.2 ⟨hP, hD.weaken (fun _ q _ h => hFF q.1 h), hS1⟩
theorem z_back5 (hrv : rv = none ∨ ∃ v, rv = some (.int v)) (hr : va_Run5 p l e R s mi args below meth c H locs kc ks mc1 ms1 (F0 mi pc ls st0) rest (z_Q rv D cA F1 A sh sh1 M1 a) F1) (hS : va_S F H0 H locs) (hFF : ∀ q, F1 q → F q)
    (kk : ∀ (A' : Nat → Nat) (H' : Heap) (locs' : List Loc), z_ag sh.length A A' → (sh1.length = sh.length → A' = A) → z_wd D cA F H0 A' sh1 M1 H' locs' → W p l e R s mi args below meth c H' locs' (kc + mc1) (ks + ms1) Q (F0 mi (pc + 5) ls (rv.toList ++ rest))) :
    W p l e R s mi args below meth c H locs kc ks Q (F0 mi pc ls st0) := by
  rcases hrv with rfl | ⟨v, rfl⟩
  · have hr : va_Run5 p l e R s mi args below meth c H locs kc ks mc1 ms1 (F0 mi pc ls st0) rest (va_Qv (fun u => z_post A sh sh1 u) (z_B D cA F1 sh1 M1) F1 a) F1 := hr
    refine va_callFv hr hS (fun q _ h => hFF q h) hFF (fun u t H1 locs1 ht hvm hp hB hz hk1 hS1 => ?_)
    obtain ⟨hP, hK, hD⟩ := hB
    rw [ht] at hP
    exact kk u H1 locs1 hp.1 hp.2 ⟨hP, hD.weaken (fun _ q _ h => hFF q.1 h), hS1⟩
  · have hr : va_Run5 p l e R s mi args below meth c H locs kc ks mc1 ms1 (F0 mi pc ls st0) rest (va_Qi (fun r u => r = v ∧ z_post A sh sh1 u) (z_B D cA F1 sh1 M1) F1 a) F1 := hr
    refine va_callFi hr hS (fun q _ h => hFF q h) hFF (fun r u t H1 locs1 ht hvm hp hB hz hk1 hS1 => ?_)
    obtain ⟨hP, hK, hD⟩ := hB
    obtain ⟨rfl, hp⟩ := hp
    rw [ht] at hP
    exact kk u H1 locs1 hp.1 hp.2 ⟨hP, hD.weaken (fun _ q _ h => hFF q.1 h), hS1⟩
theorem z_blind (hf : z_hf) (as : List Value) (D : va_G) (cA : Nat → ClassId) (A : Nat → Nat) (sh : List zS) (M : Nat → Nat → Int32) (sz : Nat) : FrameBlind (va_Pc as (z_Pre D cA A sh M sz)) := by
  intro a U g mk q
  obtain ⟨q0, q1, qP, qK, qD, qN⟩ := q
  exact ⟨q0, q1, qP, va_K.moved (u := U) (U := U.calling g mk a) (Vm.Alike.refl U.vm) qK, qD, z_N.same rfl hf qN⟩
theorem z_pre (hf : z_hf) {as : List Value} {M : Nat → Nat → Int32} {locs : List Loc} {v : Array Value} (hv : v = (as.map (z_val A)).toArray) (hK : va_K D zCl (z_ty cA) s) (hN : z_N s) (hw : z_wd D cA F H0 A sh M H locs) : ∀ U : State, U.heap = H → s.WarmedH U.vm → va_Pc (as.map (z_val A)) (z_Pre D cA A sh M H.size) v U :=
  fun U hU hW => ⟨hv, by rw [hU], by rw [hU]; exact hw.1, va_K.moved hW.alike hK, hw.2.1.weaken (fun _ _ _ _ => trivial), hN.warm hW hf⟩
end ZBack
set_option maxHeartbeats 4000000 in
theorem z_sound (L : z_laws gt st nw cp) (hC : ∀ ci kd, z_at zCT ci = some kd → z_clsP ci kd) (hCast : ∀ ci, z_cast ci = true → ∃ C T N, zCl[ci]? = some (C, T, N) ∧ C ∈ zCN) (hg : z_good) (hf : z_hf) (hMeth : ∀ t P, z_at zPG t = some P → z_cd P = [] ∨ z_meth P) : ∀ n, z_Snd gt st nw cp n := by
  intro n
  induction n with
  | zero => intro scr P pc loc stk sh m kc ks rv sh' m' h; cases h
  | succ n IH =>
    intro scr P pc loc stk sh m kc ks rv sh' m' h hM p l e R s mi args below meth c H H0 locs Q D cA F A ls X hK hA hR hscr hk hl hw hret
    rw [z_ex_s] at h
    unfold z_F at h
    cases hE : z_find (z_cd P) pc with
    | none =>
      simp only [hE] at h
      cases h
    | some E =>
      simp only [hE] at h
      obtain ⟨hin, rfl⟩ := z_find_in hE
      obtain ⟨hok, hokC⟩ := hM.2 E hin
      split at h
      · rename_i hkd
        replace h := z_i_v h
        obtain ⟨v, r, rfl, h⟩ := h
        split at h
        · rename_i hc
          obtain ⟨rfl, hro⟩ := hc
          cases h
          have hi := z_kd0 hkd
          have hdg := z_okE_dec hok (fun _ _ _ _ q => by rw [hi] at q; cases q)
          rw [hi] at hdg
          exact (hret E.1 A ls H locs kc ks (z_ag_rf _ _) (Nat.le_refl _) (fun _ => rfl) hw hk.1 hk.2).1 v rfl hdg hro
        · cases h
      · rename_i hkd
        split at h
        · rename_i hc
          obtain ⟨rfl, hro⟩ := hc
          cases h
          have hi := z_kd1 hkd
          have hdg := z_okE_dec hok (fun _ _ _ _ q => by rw [hi] at q; cases q)
          rw [hi] at hdg
          exact (hret E.1 A ls H locs kc ks (z_ag_rf _ _) (Nat.le_refl _) (fun _ => rfl) hw hk.1 hk.2).2 rfl hdg hro
        · cases h
      · rename_i hkd
        have hi := z_kd2 hkd
        · cases hT : z_tgt E stk sh with
          | none =>
            simp only [hT] at h
            cases h
          | some T =>
            simp only [hT] at h
            split at h
            · rename_i hcond
              unfold z_cOk at hcond
              simp only [Bool.and_eq_true, decide_eq_true_eq] at hcond
              obtain ⟨⟨⟨⟨⟨⟨c1, c2⟩, c3⟩, c4⟩, c5⟩, c6⟩, c7⟩ := hcond
              cases hcal : z_ex gt st nw cp n none T.2 0 (z_ent (stk.take (z_na T.2)).reverse (z_mL T.2)) [] sh m 0 0 with
              | none =>
                simp only [hcal] at h
                cases h
              | some q =>
                simp only [hcal] at h
                split at h
                · rename_i hlen
                  obtain ⟨rv1, sh1, m1⟩ := q
                  dsimp only at h hlen
                  have hrv := z_ex_rv _ _ _ _ _ _ _ _ _ _ _ hcal
                  dsimp only at hrv
                  have hM1 : z_meth T.2 := by
                    rcases z_tgt_v hT with ⟨-, a1⟩ | ⟨-, a1, -⟩ | ⟨-, PX, ci, q, rs, -, -, -, -, a1⟩ <;>
                    · rcases hMeth _ _ a1 with a | a
                      · rw [z_ex_nil a] at hcal
                        cases hcal
                      · exact a
                  have hMet := z_mk IH hcal hM1 c2 l A D cA H.size
                  have hFF : ∀ q, va_A (z_W A cA sh (gt m)) H.size q → F q := by
                    rintro q (⟨k, e1, h1⟩ | h1)
                    · exact hw.2.1.2 k _ h1
                    · exact hA q (Nat.le_trans hw.2.2.1 h1)
                  have hle : sh.length ≤ sh1.length := by omega
                  have h8 := z_sum8 A c3
                  have hroom : (z_rm T.2).frames + 1 ≤ R.frames ∧ 8 + (z_mL T.2 + 11) + (z_rm T.2).locals ≤ R.locals := by
                    have := hR.1
                    have := hR.2.1
                    constructor
                    · show z_fb T.2 + 1 ≤ R.frames
                      omega
                    · show 8 + (z_mL T.2 + 11) + z_lb T.2 ≤ R.locals
                      omega
                  have hroom2 : kc + z_mc T.2 ≤ R.cells ∧ ks + z_ms T.2 ≤ R.slots := ⟨Nat.le_trans c4 hR.2.2.1, Nat.le_trans c5 hR.2.2.2⟩
                  have kk : ∀ (A' : Nat → Nat) (H' : Heap) (locs' : List Loc), z_ag sh.length A A' → (sh1.length = sh.length → A' = A) → z_wd D cA F H0 A' sh1 (gt m1) H' locs' → W p l e R s mi args below meth c H' locs' (kc + z_mc T.2) (ks + z_ms T.2) Q (F0 mi (E.1 + z_ln E.2.1) ls (rv1.toList ++ (stk.drop (z_na T.2)).map (z_val A))) := by
                    intro A' H' locs' g1 g2 g3
                    have hboth : z_Loc A' loc ls (z_mL P) ∧ (stk.drop (z_na T.2)).map (z_val A') = (stk.drop (z_na T.2)).map (z_val A) := by
                      rcases hlen with h1 | ⟨-, h1⟩
                      · rw [g2 h1]
                        exact ⟨hl, rfl⟩
                      · unfold z_all at h1
                        rw [Bool.and_eq_true] at h1
                        exact ⟨hl.ag g1 h1.1, z_vals_ag g1 h1.2⟩
                    have := IH scr P (E.1 + z_ln E.2.1) loc (rv1.toList ++ stk.drop (z_na T.2)) sh1 m1 (kc + z_mc T.2) (ks + z_ms T.2) rv sh' m' h hM p l e R s mi args below meth c H' H0 locs' Q D cA F A' ls X hK hA hR
                      (fun L xs hq => by rw [g1 1000000 (Or.inr (by decide))]; exact hscr L xs hq) ⟨c4, c5⟩ hboth.1 g3 (hret.next g1 hle g2)
                    rw [List.map_append, hboth.2] at this
                    have e2 : rv1.toList.map (z_val A') = rv1.toList := by
                      rcases hrv with rfl | ⟨v, rfl⟩ <;> rfl
                    rw [e2] at this
                    exact this
                  have hX := X
                  obtain ⟨hx, hb, hml, hown, hts, hN, hini⟩ := hX
                  have hdg := z_okE_dec hok (fun _ _ _ _ q => by rcases hi with ⟨k, a⟩ | ⟨k, j, a⟩ | ⟨-, k, a⟩ | ⟨-, k, a⟩ <;> rw [a] at q <;> cases q)
                  have hws : ∀ w ∈ Cond.code (z_nm T.2) (z_by T.2) (z_mL T.2) (z_rt T.2) :: zWS, w ∈ zWS := fun w hw => by
                    rcases List.mem_cons.mp hw with rfl | hw
                    · exact hM1.2.1
                    · exact hw
                  have hG := z_goodIn hg hws
                  obtain ⟨epc, ei, ex, ey⟩ := E
                  dsimp only at hi hdg kk hok hokC hT ⊢
                  rcases hi with ⟨k, rfl⟩ | ⟨k, j, rfl⟩ | ⟨hx3, k, rfl⟩ | ⟨hx3, k, rfl⟩
                  · obtain ⟨rfl, P1, hP1, hpar, h1n, ⟨T1, N1, hcl⟩, w1, w2, w3, hlink⟩ := hokC
                    rcases z_tgt_v hT with ⟨a0, -⟩ | ⟨-, a1, q, rs, hq, hs⟩ | ⟨a0, -⟩
                    · cases a0
                    · obtain rfl : T.2 = P1 := Option.some.inj (a1.symm.trans hP1)
                      obtain ⟨s1, s2, s3⟩ := z_split h1n hq
                      have hv : (Value.ref (A q) :: ((stk.take (z_na T.2 - 1)).reverse).map (z_val A)).toArray = (((stk.take (z_na T.2)).reverse).map (z_val A)).toArray := by
                        rw [s2]; rfl
                      have hstack : stk.map (z_val A) = (((stk.take (z_na T.2 - 1)).reverse).map (z_val A)).reverse ++ .ref (A q) :: (stk.drop (z_na T.2)).map (z_val A) := by
                        conv => lhs; rw [s1]
                        simp [z_val]
                      have hpre : PreV s H (z_nm T.2).cls (A q) (va_Pc (((stk.take (z_na T.2)).reverse).map (z_val A)) (z_Pre D cA A sh (gt m) H.size)) (((stk.take (z_na T.2 - 1)).reverse).map (z_val A)) :=
                        ⟨z_blind hf _ D cA A sh (gt m) H.size, va_recv hK hw.1 hcl (z_W_g hs), z_pre hf hv hK hN hw⟩
                      have hlenA : (((stk.take (z_na T.2 - 1)).reverse).map (z_val A)).length = z_na T.2 - 1 := by simp at s3 ⊢; omega
                      rcases hlink with hlink | ⟨host, hlink⟩
                      · exact z_back3 hrv (va_runV (g := F0 mi epc ls (stk.map (z_val A))) ⟨hx, hb, hml, hown, hts⟩ hMet (cwV (z_na T.2 - 1) hts (z_goodIn hg (fun w hw => by
                            unfold wsV at hw
                            rcases List.mem_append.mp hw with hw | hw
                            · simp only [List.mem_cons, List.not_mem_nil, or_false] at hw
                              rcases hw with rfl | rfl | rfl | rfl
                              · exact hlink
                              · exact w1
                              · exact w2
                              · exact w3
                            · exact hws w hw)) rfl rfl rfl ⟨rfl, hM1.2.2.1.1, hM1.2.2.1.2, hpar⟩ hroom) hpre rfl hlenA hl.1 hstack (lv_room h8) hdg hroom2) hw.2.2 hFF kk
                      · exact z_back3 hrv (va_runVN (g := F0 mi epc ls (stk.map (z_val A))) ⟨hx, hb, hml, hown, hts⟩ hMet ⟨va_cnB (z_na T.2 - 1) hts hG rfl rfl rfl (hN.2.1 _ hlink) (hts _ w3) ⟨hM1.2.2.1.1, hM1.2.2.1.2, hpar⟩ hroom, hts _ w1, hts _ w2⟩ hpre rfl hlenA hl.1 hstack (lv_room h8) hdg hroom2) hw.2.2 hFF kk
                    · cases a0
                  · obtain ⟨rfl, PX, hPX, hpar, h1n, hlink, hmh, hall⟩ := hokC
                    rcases z_tgt_v hT with ⟨a0, -⟩ | ⟨a0, -⟩ | ⟨-, PX', ci, q, rs, a1, hq, hs, hface, a2⟩
                    · cases a0
                    · cases a0
                    · obtain rfl : PX' = PX := Option.some.inj (a1.symm.trans hPX)
                      obtain ⟨P1, T1, N1, hP1, hna, hcl, w2, w1, w3, hfw⟩ := hall ci T.1 hface
                      obtain rfl : T.2 = P1 := Option.some.inj (a2.symm.trans hP1)
                      rw [← hna] at hpar h1n hq
                      obtain ⟨s1, s2, s3⟩ := z_split h1n hq
                      have hv : (Value.ref (A q) :: ((stk.take (z_na T.2 - 1)).reverse).map (z_val A)).toArray = (((stk.take (z_na T.2)).reverse).map (z_val A)).toArray := by
                        rw [s2]; rfl
                      have hstack : stk.map (z_val A) = (((stk.take (z_na T.2 - 1)).reverse).map (z_val A)).reverse ++ .ref (A q) :: (stk.drop (z_na T.2)).map (z_val A) := by
                        conv => lhs; rw [s1]
                        simp [z_val]
                      have hpre : PreV s H (z_nm T.2).cls (A q) (va_Pc (((stk.take (z_na T.2)).reverse).map (z_val A)) (z_Pre D cA A sh (gt m) H.size)) (((stk.take (z_na T.2 - 1)).reverse).map (z_val A)) :=
                        ⟨z_blind hf _ D cA A sh (gt m) H.size, va_recv hK hw.1 hcl (z_W_g hs), z_pre hf hv hK hN hw⟩
                      have hlenA : (((stk.take (z_na T.2 - 1)).reverse).map (z_val A)).length = z_na T.2 - 1 := by simp at s3 ⊢; omega
                      exact z_back5 hrv (va_runF (g := F0 mi epc ls (stk.map (z_val A))) (hK.1 ci _ hcl).2 ⟨hx, hb, hml, hown, hts⟩ hMet (va_cwF (x := z_nm PX') (z_na T.2 - 1) hts (z_goodIn hg (fun w hw => by
                            unfold va_wsF at hw
                            rcases List.mem_append.mp hw with hw | hw
                            · simp only [List.mem_cons, List.not_mem_nil, or_false] at hw
                              rcases hw with rfl | rfl | rfl | rfl
                              · exact hlink
                              · exact w2
                              · exact w1
                              · exact w3
                            · exact hws w hw)) rfl rfl rfl (hN.2.2.1 _ hfw) ⟨hmh.1, hmh.2, hpar⟩ hroom) hpre rfl hlenA hl.1 hstack (lv_room h8) hdg hroom2) hw.2.2 hFF kk
                  · obtain ⟨rfl, P1, hP1, hpar, h1n, hnm, hrt, w1, w3, hlink⟩ := hokC hx3
                    rcases z_tgt_v hT with ⟨a0, -⟩ | ⟨-, a1, q, rs, hq, hs⟩ | ⟨a0, -⟩
                    · cases a0
                    · obtain rfl : T.2 = P1 := Option.some.inj (a1.symm.trans hP1)
                      obtain ⟨s1, s2, s3⟩ := z_split h1n hq
                      have hv : (Value.ref (A q) :: ((stk.take (z_na T.2 - 1)).reverse).map (z_val A)).toArray = (((stk.take (z_na T.2)).reverse).map (z_val A)).toArray := by
                        rw [s2]; rfl
                      have hstack : stk.map (z_val A) = (((stk.take (z_na T.2 - 1)).reverse).map (z_val A)).reverse ++ .ref (A q) :: (stk.drop (z_na T.2)).map (z_val A) := by
                        conv => lhs; rw [s1]
                        simp [z_val]
                      have hpre : PreS s H (va_Pc (((stk.take (z_na T.2)).reverse).map (z_val A)) (z_Pre D cA A sh (gt m) H.size)) (.ref (A q) :: ((stk.take (z_na T.2 - 1)).reverse).map (z_val A)) :=
                        ⟨z_blind hf _ D cA A sh (gt m) H.size, z_pre hf hv hK hN hw⟩
                      have hlenA : (((stk.take (z_na T.2 - 1)).reverse).map (z_val A)).length = z_na T.2 - 1 := by simp at s3 ⊢; omega
                      have hG2 := hG
                      unfold z_Met at hMet
                      rw [hrt] at hMet hG2
                      rcases hlink with hlink | ⟨host, hlink⟩
                      · exact z_back3 hrv (va_runI (g := F0 mi epc ls (stk.map (z_val A))) ⟨hx, hb, hml, hown, hts⟩ hMet (cwI (z_na T.2 - 1) hts hG2 rfl rfl rfl (hts _ w3) (hts _ hlink) (hts _ w1) hnm ⟨hM1.2.2.1.1, hM1.2.2.1.2, hpar⟩ hroom) hpre rfl hlenA hl.1 hstack (lv_room h8) hdg hroom2) hw.2.2 hFF kk
                      · exact z_back3 hrv (va_runIN (g := F0 mi epc ls (stk.map (z_val A))) ⟨hx, hb, hml, hown, hts⟩ hMet ⟨va_cnB (z_na T.2 - 1) hts hG2 rfl rfl rfl (hN.2.1 _ hlink) (hts _ w3) ⟨hM1.2.2.1.1, hM1.2.2.1.2, hpar⟩ hroom, hnm, hts _ w1⟩ hpre rfl hlenA hl.1 hstack (lv_room h8) hdg hroom2) hw.2.2 hFF kk
                    · cases a0
                  · obtain ⟨rfl, P1, hP1, hpar, w1, w3, hlink⟩ := hokC hx3
                    rcases z_tgt_v hT with ⟨-, a1⟩ | ⟨a0, -⟩ | ⟨a0, -⟩
                    · obtain rfl : T.2 = P1 := Option.some.inj (a1.symm.trans hP1)
                      have hstack : stk.map (z_val A) = (((stk.take (z_na T.2)).reverse).map (z_val A)).reverse ++ (stk.drop (z_na T.2)).map (z_val A) := by
                        conv => lhs; rw [← List.take_append_drop (z_na T.2) stk]
                        simp
                      have hpre : PreS s H (va_Pc (((stk.take (z_na T.2)).reverse).map (z_val A)) (z_Pre D cA A sh (gt m) H.size)) (((stk.take (z_na T.2)).reverse).map (z_val A)) :=
                        ⟨z_blind hf _ D cA A sh (gt m) H.size, z_pre hf rfl hK hN hw⟩
                      have hlenA : (((stk.take (z_na T.2)).reverse).map (z_val A)).length = z_na T.2 := by simp; omega
                      rcases hlink with hlink | ⟨host, hlink⟩
                      · exact z_back3 hrv (va_runS (g := F0 mi epc ls (stk.map (z_val A))) ⟨hx, hb, hml, hown, hts⟩ hMet (va_cwS (z_na T.2) hts (z_goodIn hg (fun w hw => by
                            unfold va_wsS at hw
                            rcases List.mem_append.mp hw with hw | hw
                            · simp only [List.mem_cons, List.not_mem_nil, or_false] at hw
                              rcases hw with rfl | rfl | rfl
                              · exact hlink
                              · exact w1
                              · exact w3
                            · exact hws w hw)) rfl rfl rfl ⟨hM1.2.2.1.1, hM1.2.2.1.2, hpar⟩ hroom) hpre rfl hlenA hl.1 hstack (lv_room h8) hdg hroom2) hw.2.2 hFF kk
                      · exact z_back3 hrv (va_runSN (g := F0 mi epc ls (stk.map (z_val A))) ⟨hx, hb, hml, hown, hts⟩ hMet ⟨va_cnB (z_na T.2) hts hG rfl rfl rfl (hN.2.1 _ hlink) (hts _ w3) ⟨hM1.2.2.1.1, hM1.2.2.1.2, hpar⟩ hroom, hts _ w1, trivial⟩ hpre rfl hlenA hl.1 hstack (lv_room h8) hdg hroom2) hw.2.2 hFF kk
                    · cases a0
                    · cases a0
                · cases h
            · cases h
      · cases hst : z_step gt st nw cp (z_mc P) (z_ms P) scr E loc stk sh m kc ks with
        | none =>
          simp only [hst] at h
          cases h
        | some t =>
          simp only [hst] at h
          refine z_step_ok L hC hCast X hK hA ⟨Nat.le_trans hM.1.1 hR.1, Nat.le_trans hM.1.2 hR.2.1, hR.2.2⟩ hscr hk hl hw hok hst ?_
          intro A' ls' H' locs' g1 g2 g3 g4 g5 hkt
          exact IH scr P t.1 t.2.1 t.2.2.1 t.2.2.2.1 t.2.2.2.2.1 t.2.2.2.2.2.1 t.2.2.2.2.2.2 rv sh' m' h hM p l e R s mi args below meth c H' H0 locs' Q D cA F A' ls' X hK hA hR (fun L xs hq => by rw [g1 1000000 (Or.inr (by decide))]; exact hscr L xs hq) hkt g4 g5 (hret.next g1 g2 g3)
end ZSound
