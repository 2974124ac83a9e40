section ZRun
variable {μ : Type} (gt : μ → Nat → Nat → Int32) (st : μ → Nat → Nat → Int32 → μ) (nw : μ → Nat → μ) (cp : μ → Nat → Nat → Nat → Nat → Nat → μ)
/-- with some fuel the machine comes to q -/
def z_run (scr : Option (Nat × (Nat → Int32))) (P : zP) (pc : Nat) (loc : List (Option Value)) (stk : List Value) (sh : List zS) (m : μ) (kc ks : Nat) (q : Option Value × List zS × μ) : Prop := ∃ n, z_ex gt st nw cp n scr P pc loc stk sh m kc ks = some q
end ZRun
section ZRun2
variable {μ : Type} {gt : μ → Nat → Nat → Int32} {st : μ → Nat → Nat → Int32 → μ} {nw : μ → Nat → μ} {cp : μ → Nat → Nat → Nat → Nat → Nat → μ}
theorem z_F_mono {ih ih' : zR μ} (hh : ∀ scr P pc loc stk sh m kc ks q, ih scr P pc loc stk sh m kc ks = some q → ih' scr P pc loc stk sh m kc ks = some q) :
    ∀ scr P pc loc stk sh m kc ks q, z_F gt st nw cp ih scr P pc loc stk sh m kc ks = some q → z_F gt st nw cp ih' scr P pc loc stk sh m kc ks = some q := by
  intro scr P pc loc stk sh m kc ks q h
  unfold z_F at h ⊢
  cases hE : z_find (z_cd P) pc with
  | none =>
    simp only [hE] at h
    cases h
  | some E =>
    simp only [hE] at h ⊢
    split at h
    · rename_i hk
      try simp only [hk]
      exact h
    · rename_i hk
      try simp only [hk]
      exact h
    · rename_i hk
      try simp only [hk]
      · cases hT : z_tgt E stk sh with
        | none =>
          simp only [hT] at h
          cases h
        | some T =>
          simp only [hT] at h ⊢
          split at h
          · rename_i hc
            rw [if_pos hc]
            cases h1 : ih none T.2 0 (z_ent (stk.take (z_na T.2)).reverse (z_mL T.2)) [] sh m 0 0 with
            | none =>
              simp only [h1] at h
              cases h
            | some q1 =>
              simp only [h1] at h
              rw [hh _ _ _ _ _ _ _ _ _ _ h1]
              dsimp only
              split at h
              · rename_i hl
                rw [if_pos hl]
                exact hh _ _ _ _ _ _ _ _ _ _ h
              · cases h
          · cases h
    · rename_i hk0 hk1 hk2
      cases hs : z_step gt st nw cp (z_mc P) (z_ms P) scr E loc stk sh m kc ks with
      | none =>
        simp only [hs] at h
        cases h
      | some t =>
        simp only [hs] at h ⊢
        exact hh _ _ _ _ _ _ _ _ _ _ h
theorem z_ex_up : ∀ n scr P pc loc stk sh (m : μ) kc ks q, z_ex gt st nw cp n scr P pc loc stk sh m kc ks = some q → z_ex gt st nw cp (n + 1) scr P pc loc stk sh m kc ks = some q := by
  intro n
  induction n with
  | zero => intro scr P pc loc stk sh m kc ks q h; cases h
  | succ n IH =>
    intro scr P pc loc stk sh m kc ks q h
    rw [z_ex_s] at h ⊢
    exact z_F_mono IH _ _ _ _ _ _ _ _ _ _ h
theorem z_ex_le {n k : Nat} (hnk : n ≤ k) {scr : Option (Nat × (Nat → Int32))} {P : zP} {pc : Nat} {loc : List (Option Value)} {stk : List Value} {sh : List zS} {m : μ} {kc ks : Nat} {q : Option Value × List zS × μ} (h : z_ex gt st nw cp n scr P pc loc stk sh m kc ks = some q) : z_ex gt st nw cp k scr P pc loc stk sh m kc ks = some q := by
  induction hnk with
  | refl => exact h
  | step _ ih => exact z_ex_up _ _ _ _ _ _ _ _ _ _ _ ih
variable {scr : Option (Nat × (Nat → Int32))} {P : zP} {pc : Nat} {loc : List (Option Value)} {stk : List Value} {sh : List zS} {m : μ} {kc ks : Nat} {q : Option Value × List zS × μ} {E : zE}
theorem z_run_of {n : Nat} (h : z_ex gt st nw cp n scr P pc loc stk sh m kc ks = some q) : z_run gt st nw cp scr P pc loc stk sh m kc ks q := ⟨n, h⟩
theorem z_run_step {t : zT μ} (hE : z_find (z_cd P) pc = some E) (hk : z_kd E.2.1 E.2.2.1 = 3) (hs : z_step gt st nw cp (z_mc P) (z_ms P) scr E loc stk sh m kc ks = some t)
    (h : z_run gt st nw cp scr P t.1 t.2.1 t.2.2.1 t.2.2.2.1 t.2.2.2.2.1 t.2.2.2.2.2.1 t.2.2.2.2.2.2 q) : z_run gt st nw cp scr P pc loc stk sh m kc ks q := by
  obtain ⟨n, h⟩ := h
  refine ⟨n + 1, ?_⟩
  rw [z_ex_s]
  unfold z_F
  simp only [hE, hk, hs]
  exact h
theorem z_run_call {T : Nat × zP} {q1 : Option Value × List zS × μ} (hE : z_find (z_cd P) pc = some E) (hk : z_kd E.2.1 E.2.2.1 = 2) (hT : z_tgt E stk sh = some T)
    (hc : z_cOk P T.2 stk kc ks = true)
    (h1 : z_run gt st nw cp none T.2 0 (z_ent (stk.take (z_na T.2)).reverse (z_mL T.2)) [] sh m 0 0 q1) (hl : q1.2.1.length = sh.length ∨ (sh.length < q1.2.1.length ∧ z_all sh.length loc (stk.drop (z_na T.2)) = true))
    (h : z_run gt st nw cp scr P (E.1 + z_ln E.2.1) loc (q1.1.toList ++ stk.drop (z_na T.2)) q1.2.1 q1.2.2 (kc + z_mc T.2) (ks + z_ms T.2) q) : z_run gt st nw cp scr P pc loc stk sh m kc ks q := by
  obtain ⟨n1, h1⟩ := h1
  obtain ⟨n, h⟩ := h
  refine ⟨max n1 n + 1, ?_⟩
  rw [z_ex_s]
  unfold z_F
  simp only [hE, hk, hT]
  rw [if_pos hc, z_ex_le (Nat.le_max_left n1 n) h1]
  dsimp only
  rw [if_pos hl]
  exact z_ex_le (Nat.le_max_right n1 n) h
theorem z_run_iret {v : Int32} (hE : z_find (z_cd P) pc = some E) (hi : E.2.1 = .ireturn) (hr : z_retOk (z_rt P) v = true) : z_run gt st nw cp scr P pc loc [.int v] sh m kc ks (some (.int v), sh, m) := by
  refine ⟨1, ?_⟩
  rw [z_ex_s]
  unfold z_F
  simp only [hE, hi]
  show (if ([] : List Value) = [] ∧ z_retOk (z_rt P) v = true then some (some (Value.int v), sh, m) else none) = _
  rw [if_pos ⟨rfl, hr⟩]
theorem z_run_vret (hE : z_find (z_cd P) pc = some E) (hi : E.2.1 = .return_) (hr : z_rt P = none) : z_run gt st nw cp scr P pc loc [] sh m kc ks (none, sh, m) := by
  refine ⟨1, ?_⟩
  rw [z_ex_s]
  unfold z_F
  simp only [hE, hi]
  simp [z_kd, hr]
end ZRun2
