set_option maxRecDepth 100000 in
theorem c_planIdx {b : Bool} {M : iM} {p o c c' : Nat} {f : Int} (hb : BP b p o) (hi : oB M p c) (hp : oB M o c') (hf : f = fpl (fun s => oM M p c s ∨ oM M o c' s) (((1 + 7 * c' + 10) / 11 : Nat) : Int) 46 2 0) : irun none zp_24 0 (i_ent [iP 0] 3) [] (SH b) M 0 0 (if c' = 0 then (some 1, SH b, M) else if f = -1 then (some 0, SH b, M) else (some 1, SH b, i_st (i_st M o 3 f) o 4 (((1 + 7 * c' + 10) / 11 : Nat) : Int))) := by
  have e1 := hp.1
  have e2 := hp.2.1
  have hfb := fpl_b (U := fun s => oM M p c s ∨ oM M o c' s) (n := (((1 + 7 * c' + 10) / 11 : Nat) : Int)) (by omega) 46 2 0 (by omega) (by omega)
  rw [← hf] at hfb
  by_cases c0 : c' = 0
  · rw [if_pos c0]
    rcases hb with ⟨rfl, rfl, rfl⟩ | ⟨rfl, rfl, rfl⟩
    · refine i_aload_n rfl rfl ?_
      refine i_getr (p2 := 38) rfl rfl rfl rfl (by decide) rfl ?_
      refine i_getf rfl rfl rfl rfl (by decide) ?_
      refine i_if_ne_f rfl (by first | omega | assumption) ?_
      refine i_iconst (n := 1) rfl (by unfold iR; omega) ?_
      -- at 11
      exact i_zreturn rfl rfl (by first | omega | assumption)
    · refine i_aload_n rfl rfl ?_
      refine i_getr (p2 := 36) rfl rfl rfl rfl (by decide) rfl ?_
      refine i_getf rfl rfl rfl rfl (by decide) ?_
      refine i_if_ne_f rfl (by first | omega | assumption) ?_
      refine i_iconst (n := 1) rfl (by unfold iR; omega) ?_
      -- at 11
      exact i_zreturn rfl rfl (by first | omega | assumption)
  · rw [if_neg c0]
    generalize en : (1 + 7 * c' + 10) / 11 = n at *
    rcases hb with ⟨rfl, rfl, rfl⟩ | ⟨rfl, rfl, rfl⟩
    · have bs : irun none zp_56 0 (i_ent [iP 38] 1) [] (SH false) M 0 0 (some ((1 + 7 * c' : Nat) : Int), SH false, M) := by
        refine i_iconst (n := 1) rfl (by unfold iR; omega) ?_
        refine i_aload_n rfl rfl ?_
        refine i_getf rfl rfl rfl rfl (by decide) ?_
        refine i_bipush (n := 7) rfl (by unfold iR; omega) (by decide) ?_
        refine i_imul rfl (by unfold iR; omega) ?_
        refine i_iadd rfl (by unfold iR; omega) ?_
        -- at 9
        rw [show (1 : Int) + M 38 1 * 7 = ((1 + 7 * c' : Nat) : Int) by omega]
        exact i_ireturn rfl rfl
      have sf := c_sectorsFor (sh := SH false) (M := M) (n := 1 + 7 * c') (by omega)
      rw [en] at sf
      have fp := c_free (b := false) (n := (n : Int)) hi hp (by omega)
      have fp : irun none zp_25 0 (i_ent [iP 0, iI (n : Int)] 5) [] (SH false) M 0 0 (some f, SH false, M) := by rw [hf]; exact fp
      by_cases c1 : f = -1
      · rw [if_pos c1]
        refine i_aload_n rfl rfl ?_
        refine i_getr (p2 := 38) rfl rfl rfl rfl (by decide) rfl ?_
        refine i_getf rfl rfl rfl rfl (by decide) ?_
        refine i_if_ne_t rfl (by first | omega | assumption) ?_
        refine i_aload_n rfl rfl ?_
        refine i_getr (p2 := 38) rfl rfl rfl rfl (by decide) rfl ?_
        -- at 16
        refine i_call (T := (56, zp_56)) rfl rfl (bs) rfl rfl rfl rfl rfl rfl rfl ?_
        try dsimp only
        show irun none zp_24 19 _ (iI (((1 + 7 * c' : Nat) : Int)) :: _) _ _ 0 0 _
        -- at 19
        refine i_call (T := (26, zp_26)) rfl rfl (sf) rfl rfl rfl rfl rfl rfl rfl ?_
        try dsimp only
        show irun none zp_24 22 _ (iI ((n : Int)) :: _) _ _ 0 0 _
        refine i_istore_n rfl (Nat.le_of_ble_eq_true rfl) rfl ?_
        refine i_aload_n rfl rfl ?_
        refine i_iload_n rfl rfl ?_
        -- at 25
        refine i_call (T := (25, zp_25)) rfl rfl (fp) rfl rfl rfl rfl rfl rfl rfl ?_
        try dsimp only
        show irun none zp_24 28 _ (iI (f) :: _) _ _ 0 0 _
        refine i_istore_n rfl (Nat.le_of_ble_eq_true rfl) rfl ?_
        refine i_iload_n rfl rfl ?_
        refine i_iconst (n := -1) rfl (by unfold iR; omega) ?_
        refine i_icmp_ne_f rfl (by first | omega | assumption) ?_
        refine i_iconst (n := 0) rfl (by unfold iR; omega) ?_
        -- at 35
        exact i_zreturn rfl rfl (by first | omega | assumption)
      · rw [if_neg c1]
        refine i_aload_n rfl rfl ?_
        refine i_getr (p2 := 38) rfl rfl rfl rfl (by decide) rfl ?_
        refine i_getf rfl rfl rfl rfl (by decide) ?_
        refine i_if_ne_t rfl (by first | omega | assumption) ?_
        refine i_aload_n rfl rfl ?_
        refine i_getr (p2 := 38) rfl rfl rfl rfl (by decide) rfl ?_
        -- at 16
        refine i_call (T := (56, zp_56)) rfl rfl (bs) rfl rfl rfl rfl rfl rfl rfl ?_
        try dsimp only
        show irun none zp_24 19 _ (iI (((1 + 7 * c' : Nat) : Int)) :: _) _ _ 0 0 _
        -- at 19
        refine i_call (T := (26, zp_26)) rfl rfl (sf) rfl rfl rfl rfl rfl rfl rfl ?_
        try dsimp only
        show irun none zp_24 22 _ (iI ((n : Int)) :: _) _ _ 0 0 _
        refine i_istore_n rfl (Nat.le_of_ble_eq_true rfl) rfl ?_
        refine i_aload_n rfl rfl ?_
        refine i_iload_n rfl rfl ?_
        -- at 25
        refine i_call (T := (25, zp_25)) rfl rfl (fp) rfl rfl rfl rfl rfl rfl rfl ?_
        try dsimp only
        show irun none zp_24 28 _ (iI (f) :: _) _ _ 0 0 _
        refine i_istore_n rfl (Nat.le_of_ble_eq_true rfl) rfl ?_
        refine i_iload_n rfl rfl ?_
        refine i_iconst (n := -1) rfl (by unfold iR; omega) ?_
        refine i_icmp_ne_t rfl (by first | omega | assumption) ?_
        refine i_aload_n rfl rfl ?_
        refine i_getr (p2 := 38) rfl rfl rfl rfl (by decide) rfl ?_
        refine i_iload_n rfl rfl ?_
        refine i_puti rfl rfl rfl rfl ?_
        refine i_aload_n rfl rfl ?_
        refine i_getr (p2 := 38) rfl rfl rfl rfl (by decide) rfl ?_
        refine i_iload_n rfl rfl ?_
        refine i_puti rfl rfl rfl rfl ?_
        refine i_iconst (n := 1) rfl (by unfold iR; omega) ?_
        -- at 53
        exact i_zreturn rfl rfl (by first | omega | assumption)
    · have bs : irun none zp_56 0 (i_ent [iP 36] 1) [] (SH true) M 0 0 (some ((1 + 7 * c' : Nat) : Int), SH true, M) := by
        refine i_iconst (n := 1) rfl (by unfold iR; omega) ?_
        refine i_aload_n rfl rfl ?_
        refine i_getf rfl rfl rfl rfl (by decide) ?_
        refine i_bipush (n := 7) rfl (by unfold iR; omega) (by decide) ?_
        refine i_imul rfl (by unfold iR; omega) ?_
        refine i_iadd rfl (by unfold iR; omega) ?_
        -- at 9
        rw [show (1 : Int) + M 36 1 * 7 = ((1 + 7 * c' : Nat) : Int) by omega]
        exact i_ireturn rfl rfl
      have sf := c_sectorsFor (sh := SH true) (M := M) (n := 1 + 7 * c') (by omega)
      rw [en] at sf
      have fp := c_free (b := true) (n := (n : Int)) hi hp (by omega)
      have fp : irun none zp_25 0 (i_ent [iP 0, iI (n : Int)] 5) [] (SH true) M 0 0 (some f, SH true, M) := by rw [hf]; exact fp
      by_cases c1 : f = -1
      · rw [if_pos c1]
        refine i_aload_n rfl rfl ?_
        refine i_getr (p2 := 36) rfl rfl rfl rfl (by decide) rfl ?_
        refine i_getf rfl rfl rfl rfl (by decide) ?_
        refine i_if_ne_t rfl (by first | omega | assumption) ?_
        refine i_aload_n rfl rfl ?_
        refine i_getr (p2 := 36) rfl rfl rfl rfl (by decide) rfl ?_
        -- at 16
        refine i_call (T := (56, zp_56)) rfl rfl (bs) rfl rfl rfl rfl rfl rfl rfl ?_
        try dsimp only
        show irun none zp_24 19 _ (iI (((1 + 7 * c' : Nat) : Int)) :: _) _ _ 0 0 _
        -- at 19
        refine i_call (T := (26, zp_26)) rfl rfl (sf) rfl rfl rfl rfl rfl rfl rfl ?_
        try dsimp only
        show irun none zp_24 22 _ (iI ((n : Int)) :: _) _ _ 0 0 _
        refine i_istore_n rfl (Nat.le_of_ble_eq_true rfl) rfl ?_
        refine i_aload_n rfl rfl ?_
        refine i_iload_n rfl rfl ?_
        -- at 25
        refine i_call (T := (25, zp_25)) rfl rfl (fp) rfl rfl rfl rfl rfl rfl rfl ?_
        try dsimp only
        show irun none zp_24 28 _ (iI (f) :: _) _ _ 0 0 _
        refine i_istore_n rfl (Nat.le_of_ble_eq_true rfl) rfl ?_
        refine i_iload_n rfl rfl ?_
        refine i_iconst (n := -1) rfl (by unfold iR; omega) ?_
        refine i_icmp_ne_f rfl (by first | omega | assumption) ?_
        refine i_iconst (n := 0) rfl (by unfold iR; omega) ?_
        -- at 35
        exact i_zreturn rfl rfl (by first | omega | assumption)
      · rw [if_neg c1]
        refine i_aload_n rfl rfl ?_
        refine i_getr (p2 := 36) rfl rfl rfl rfl (by decide) rfl ?_
        refine i_getf rfl rfl rfl rfl (by decide) ?_
        refine i_if_ne_t rfl (by first | omega | assumption) ?_
        refine i_aload_n rfl rfl ?_
        refine i_getr (p2 := 36) rfl rfl rfl rfl (by decide) rfl ?_
        -- at 16
        refine i_call (T := (56, zp_56)) rfl rfl (bs) rfl rfl rfl rfl rfl rfl rfl ?_
        try dsimp only
        show irun none zp_24 19 _ (iI (((1 + 7 * c' : Nat) : Int)) :: _) _ _ 0 0 _
        -- at 19
        refine i_call (T := (26, zp_26)) rfl rfl (sf) rfl rfl rfl rfl rfl rfl rfl ?_
        try dsimp only
        show irun none zp_24 22 _ (iI ((n : Int)) :: _) _ _ 0 0 _
        refine i_istore_n rfl (Nat.le_of_ble_eq_true rfl) rfl ?_
        refine i_aload_n rfl rfl ?_
        refine i_iload_n rfl rfl ?_
        -- at 25
        refine i_call (T := (25, zp_25)) rfl rfl (fp) rfl rfl rfl rfl rfl rfl rfl ?_
        try dsimp only
        show irun none zp_24 28 _ (iI (f) :: _) _ _ 0 0 _
        refine i_istore_n rfl (Nat.le_of_ble_eq_true rfl) rfl ?_
        refine i_iload_n rfl rfl ?_
        refine i_iconst (n := -1) rfl (by unfold iR; omega) ?_
        refine i_icmp_ne_t rfl (by first | omega | assumption) ?_
        refine i_aload_n rfl rfl ?_
        refine i_getr (p2 := 36) rfl rfl rfl rfl (by decide) rfl ?_
        refine i_iload_n rfl rfl ?_
        refine i_puti rfl rfl rfl rfl ?_
        refine i_aload_n rfl rfl ?_
        refine i_getr (p2 := 36) rfl rfl rfl rfl (by decide) rfl ?_
        refine i_iload_n rfl rfl ?_
        refine i_puti rfl rfl rfl rfl ?_
        refine i_iconst (n := 1) rfl (by unfold iR; omega) ?_
        -- at 53
        exact i_zreturn rfl rfl (by first | omega | assumption)
theorem PK_all {K : Nat × (Nat → Int)} {B N Z : Nat → Int} {f s t : Int} {a : Nat} (h : PK B N 0 K) (hN : ∀ i, i < a → 0 ≤ N i ∧ N i ≤ 7) (hv : ∀ i, i < a → vr B N i ≤ 255) (hB : ∀ k, k < 8 → 0 ≤ B k) (hf : 0 < a → 2 ≤ f ∧ 1 ≤ s ∧ f + s ≤ 48) (hg : ∀ i, i ≤ a → 0 ≤ sm Z i ∧ sm Z i ≤ 255) (hz : ∀ i, i < a → 0 ≤ Z i ∧ Z i ≤ 24) (ht : 0 ≤ t ∧ t ≤ 255) : ∀ i, i ≤ a → PK B N i (plN K B N Z f s t i) := by
  intro i
  induction i with
  | zero => intro _; exact h
  | succ i ih =>
    intro hi
    obtain ⟨f1, f2, f3⟩ := hf (by omega)
    have := hN i (by omega)
    exact PK_s (ih (by omega)) (hN i (by omega)) (hv i (by omega)) (hB _ (by omega)) f1 f2 f3 (hg i (by omega)) (hz i (by omega)) ht
theorem plN_occ {K : Nat × (Nat → Int)} {B N Z : Nat → Int} {f s t : Int} : ∀ i, (∀ k, k < (plN K B N Z f s t i).1 → (∃ j, j < K.1 ∧ (plN K B N Z f s t i).2 (7 * k + 2) = K.2 (7 * j + 2) ∧ (plN K B N Z f s t i).2 (7 * k + 3) = K.2 (7 * j + 3)) ∨ ((plN K B N Z f s t i).2 (7 * k + 2) = f ∧ (plN K B N Z f s t i).2 (7 * k + 3) = s)) ∧ (0 < i → ∃ k, k < (plN K B N Z f s t i).1 ∧ (plN K B N Z f s t i).2 (7 * k + 2) = f ∧ (plN K B N Z f s t i).2 (7 * k + 3) = s) ∧ ∀ j, j < K.1 → ∃ k, k < (plN K B N Z f s t i).1 ∧ (plN K B N Z f s t i).2 (7 * k + 2) = K.2 (7 * j + 2) ∧ (plN K B N Z f s t i).2 (7 * k + 3) = K.2 (7 * j + 3) := by
  intro i
  induction i with
  | zero => exact ⟨fun k hk => Or.inl ⟨k, hk, rfl, rfl⟩, fun h => absurd h (by omega), fun j hj => ⟨j, hj, rfl, rfl⟩⟩
  | succ i ih =>
    obtain ⟨h1, h2, h3⟩ := ih
    have hp := (ipos_ok (W := (plN K B N Z f s t i).2) (a := N i) (v := vr B N i) (plN K B N Z f s t i).1).1
    have key := ins_all (E := e7 (N i) (vr B N i) f s (sm Z i) (Z i) t) hp (P := fun g => (∃ j, j < K.1 ∧ g 2 = K.2 (7 * j + 2) ∧ g 3 = K.2 (7 * j + 3)) ∨ (g 2 = f ∧ g 3 = s)) (Or.inr ⟨rfl, rfl⟩) (fun k hk => h1 k hk) (fun u v huv hu => by rw [← huv 2 (by omega), ← huv 3 (by omega)]; exact hu)
    refine ⟨fun k hk => key k hk, fun _ => ⟨ipos (plN K B N Z f s t i).2 (N i) (vr B N i) (plN K B N Z f s t i).1, ?_, ?_, ?_⟩, fun j hj => ?_⟩
    · show _ < (plN K B N Z f s t i).1 + 1
      omega
    · exact insW_at (by omega)
    · exact insW_at (by omega)
    · obtain ⟨k, k1, k2, k3⟩ := h3 j hj
      by_cases e : k < ipos (plN K B N Z f s t i).2 (N i) (vr B N i) (plN K B N Z f s t i).1
      · exact ⟨k, Nat.lt_succ_of_lt k1, (insW_lo e (by omega)).trans k2, (insW_lo e (by omega)).trans k3⟩
      · exact ⟨k + 1, Nat.succ_lt_succ k1, (insW_hi (by omega) (by omega)).trans k2, (insW_hi (by omega) (by omega)).trans k3⟩
/-- what a commit plans, out of the memory before it -/
def kK (M : iM) (p : Nat) : Nat × (Nat → Int) := kpN (M 10) (M (p + 1)) (M p 1).toNat
def aN (M : iM) : Nat := (M 5 6).toNat
noncomputable def zB (M : iM) : Nat := (chs (M 7) (M 5 7).toNat 4).2 + 3
noncomputable def sE (M : iM) : Nat := if aN M = 0 then 0 else (zB M + 10) / 11
noncomputable def fI (M : iM) (p : Nat) : Int := if aN M = 0 then 0 else fpl (oM M p (M p 1).toNat) (sE M : Int) 46 2 0
def tN (M : iM) : Int := if M 0 8 < 127 then M 0 8 + 1 else M 0 8
noncomputable def pL (M : iM) (p : Nat) (i : Nat) : Nat × (Nat → Int) := plN (kK M p) (M 32) (M 8) (M 9) (fI M p) (sE M : Int) (tN M) i
noncomputable def pN (M : iM) (p : Nat) : Nat := (kK M p).1 + aN M
noncomputable def mE (M : iM) (p : Nat) : Nat := if pN M p = 0 then 0 else (1 + 7 * pN M p + 10) / 11
noncomputable def qI (M : iM) (p : Nat) : Int := if pN M p = 0 then 0 else fpl (fun s => oM M p (M p 1).toNat s ∨ (fI M p ≤ s ∧ s < fI M p + (sE M : Int))) (mE M p : Int) 46 2 0
def okC (M : iM) (p : Nat) : Prop := (pN M p ≤ 10 ∧ fI M p ≠ -1 ∧ ∀ i, i < aN M → vr (M 32) (M 8) i ≤ 255) ∧ qI M p ≠ -1
/-- what a commit starts from -/
abbrev CP (M : iM) (p c a n : Nat) : Prop := (M p 1 = (c : Int)) ∧ (c ≤ 10) ∧ (∀ k, k < c → En (fun u => M (p + 1) (7 * k + u))) ∧ (Srt (M (p + 1)) c) ∧ (∀ k, k < c → M (p + 1) (7 * k + 1) ≤ M 32 (M (p + 1) (7 * k)).toNat) ∧ (0 ≤ M p 2 ∧ M p 2 ≤ 255) ∧ (0 ≤ M p 3 ∧ M p 3 ≤ 255) ∧ (0 ≤ M p 4 ∧ M p 4 ≤ 255) ∧ (∀ k, k < 8 → 0 ≤ M 32 k ∧ M 32 k ≤ 255) ∧ (0 ≤ M 0 8 ∧ M 0 8 ≤ 255) ∧ (M 5 6 = (a : Int)) ∧ (a ≤ 4) ∧ (∀ k, k < a → 0 ≤ M 8 k ∧ M 8 k ≤ 7) ∧ (∀ k, k < a → 0 ≤ M 9 k ∧ M 9 k ≤ 24) ∧ (M 5 7 = (n : Int)) ∧ (sm (M 9) a = (n : Int)) ∧ (∀ k, k < 10 → M 10 k = 0 ∨ M 10 k = 1) ∧ (∀ j, j < n → 0 ≤ M 7 j ∧ M 7 j < 256)
theorem CP.hc {M : iM} {p c a n : Nat} (h : CP M p c a n) : M p 1 = (c : Int) := h.1
theorem CP.h10 {M : iM} {p c a n : Nat} (h : CP M p c a n) : c ≤ 10 := h.2.1
theorem CP.hE {M : iM} {p c a n : Nat} (h : CP M p c a n) : ∀ k, k < c → En (fun u => M (p + 1) (7 * k + u)) := h.2.2.1
theorem CP.hS {M : iM} {p c a n : Nat} (h : CP M p c a n) : Srt (M (p + 1)) c := h.2.2.2.1
theorem CP.hV {M : iM} {p c a n : Nat} (h : CP M p c a n) : ∀ k, k < c → M (p + 1) (7 * k + 1) ≤ M 32 (M (p + 1) (7 * k)).toNat := h.2.2.2.2.1
theorem CP.h2 {M : iM} {p c a n : Nat} (h : CP M p c a n) : 0 ≤ M p 2 ∧ M p 2 ≤ 255 := h.2.2.2.2.2.1
theorem CP.h3 {M : iM} {p c a n : Nat} (h : CP M p c a n) : 0 ≤ M p 3 ∧ M p 3 ≤ 255 := h.2.2.2.2.2.2.1
theorem CP.h4 {M : iM} {p c a n : Nat} (h : CP M p c a n) : 0 ≤ M p 4 ∧ M p 4 ≤ 255 := h.2.2.2.2.2.2.2.1
theorem CP.hB {M : iM} {p c a n : Nat} (h : CP M p c a n) : ∀ k, k < 8 → 0 ≤ M 32 k ∧ M 32 k ≤ 255 := h.2.2.2.2.2.2.2.2.1
theorem CP.ht {M : iM} {p c a n : Nat} (h : CP M p c a n) : 0 ≤ M 0 8 ∧ M 0 8 ≤ 255 := h.2.2.2.2.2.2.2.2.2.1
theorem CP.ha {M : iM} {p c a n : Nat} (h : CP M p c a n) : M 5 6 = (a : Int) := h.2.2.2.2.2.2.2.2.2.2.1
theorem CP.ha4 {M : iM} {p c a n : Nat} (h : CP M p c a n) : a ≤ 4 := h.2.2.2.2.2.2.2.2.2.2.2.1
theorem CP.hN {M : iM} {p c a n : Nat} (h : CP M p c a n) : ∀ k, k < a → 0 ≤ M 8 k ∧ M 8 k ≤ 7 := h.2.2.2.2.2.2.2.2.2.2.2.2.1
theorem CP.hZ {M : iM} {p c a n : Nat} (h : CP M p c a n) : ∀ k, k < a → 0 ≤ M 9 k ∧ M 9 k ≤ 24 := h.2.2.2.2.2.2.2.2.2.2.2.2.2.1
theorem CP.hn {M : iM} {p c a n : Nat} (h : CP M p c a n) : M 5 7 = (n : Int) := h.2.2.2.2.2.2.2.2.2.2.2.2.2.2.1
theorem CP.hn2 {M : iM} {p c a n : Nat} (h : CP M p c a n) : sm (M 9) a = (n : Int) := h.2.2.2.2.2.2.2.2.2.2.2.2.2.2.2.1
theorem CP.hG {M : iM} {p c a n : Nat} (h : CP M p c a n) : ∀ k, k < 10 → M 10 k = 0 ∨ M 10 k = 1 := h.2.2.2.2.2.2.2.2.2.2.2.2.2.2.2.2.1
theorem CP.hY {M : iM} {p c a n : Nat} (h : CP M p c a n) : ∀ j, j < n → 0 ≤ M 7 j ∧ M 7 j < 256 := h.2.2.2.2.2.2.2.2.2.2.2.2.2.2.2.2.2
theorem smZ_b {Z : Nat → Int} {a : Nat} (h : ∀ k, k < a → 0 ≤ Z k ∧ Z k ≤ 24) : ∀ i, i ≤ a → 0 ≤ sm Z i ∧ sm Z i ≤ 24 * i := by
  intro i
  induction i with
  | zero => intro _; exact ⟨Int.le_refl _, Int.le_refl _⟩
  | succ i ih =>
    intro hi
    have h1 := ih (by omega)
    have h2 := h i (by omega)
    show 0 ≤ sm Z i + Z i ∧ sm Z i + Z i ≤ _
    omega
theorem CP_n {M : iM} {p c a n : Nat} (h : CP M p c a n) : n ≤ 96 := by
  have h1 := smZ_b h.hZ a (Nat.le_refl _)
  have h2 := h.hn2
  have h3 := h.ha4
  omega
theorem CP_oB {M : iM} {p c a n : Nat} (h : CP M p c a n) : oB M p c := by
  refine ⟨h.hc, h.h10, ?_, ?_, fun k hk => ?_⟩
  · have := h.h3; omega
  · have := h.h4; omega
  · obtain ⟨_, _, e1, e2, e3, _⟩ := h.hE k hk
    have e1 : 2 ≤ M (p + 1) (7 * k + 2) := e1
    have e2 : 1 ≤ M (p + 1) (7 * k + 3) := e2
    have e3 : M (p + 1) (7 * k + 2) + M (p + 1) (7 * k + 3) ≤ 48 := e3
    omega
/-- the planned index's sectors -/
theorem occ_kept {M M2 : iM} {p o c a n : Nat} (h : CP M p c a n) (h3 : M2 o 3 = 0) (h4 : M2 o 4 = 0) (hw : ∀ j, j < 7 * (kK M p).1 → M2 (o + 1) j = (kK M p).2 j) (e1 : M2 p = M p) (e2 : M2 (p + 1) = M (p + 1)) (s : Int) : (oM M2 p c s ∨ oM M2 o (kK M p).1 s) ↔ oM M p c s := by
  have ek : kK M p = kpN (M 10) (M (p + 1)) c := by unfold kK; rw [h.hc]; rfl
  constructor
  · rintro (q | q)
    · unfold oM at q ⊢
      rw [e1, e2] at q
      exact q
    · unfold oM oU at q
      rw [h3, h4] at q
      rcases q with q | ⟨k, k1, k2, k3⟩
      · omega
      · rw [hw _ (by omega), hw _ (by omega)] at k3
        rw [hw _ (by omega)] at k2
        rw [ek] at k1 k2 k3
        obtain ⟨i, i1, _, i3⟩ := (kp_ok (G := M 10) h.hS c (Nat.le_refl _)).2.1 k k1
        rw [i3 2 (by omega)] at k2 k3
        rw [i3 3 (by omega)] at k3
        exact Or.inr ⟨i, i1, k2, k3⟩
  · intro q
    left
    unfold oM at q ⊢
    rw [e1, e2]
    exact q
theorem kK_b {M : iM} {p c a n : Nat} (h : CP M p c a n) : (kK M p).1 ≤ c := by
  have ek : kK M p = kpN (M 10) (M (p + 1)) c := by unfold kK; rw [h.hc]; rfl
  rw [ek]
  exact (kp_ok (G := M 10) h.hS c (Nat.le_refl _)).1
theorem kK_PK {M : iM} {p c a n : Nat} (h : CP M p c a n) : PK (M 32) (M 8) 0 (kK M p) := by
  have ek : kK M p = kpN (M 10) (M (p + 1)) c := by unfold kK; rw [h.hc]; rfl
  rw [ek]
  exact PK_0 h.hS h.hE h.hV
theorem tN_b {M : iM} (h : 0 ≤ M 0 8 ∧ M 0 8 ≤ 255) : 0 ≤ tN M ∧ tN M ≤ 255 := by
  unfold tN
  split <;> omega
theorem fI_b {M : iM} {p c a n : Nat} (h : CP M p c a n) (h1 : 0 < a) (h2 : fI M p ≠ -1) : 2 ≤ fI M p ∧ 1 ≤ sE M ∧ fI M p + (sE M : Int) ≤ 48 := by
  have ea : aN M = a := by unfold aN; rw [h.ha]; rfl
  have es : 1 ≤ sE M := by
    unfold sE
    rw [if_neg (by omega)]
    unfold zB
    omega
  unfold fI at h2 ⊢
  rw [if_neg (by omega)] at h2 ⊢
  rcases fpl_b (U := oM M p (M p 1).toNat) (n := (sE M : Int)) (by omega) 46 2 0 (by omega) (by omega) with q | q
  · exact absurd q h2
  · exact ⟨q.1, es, by omega⟩
theorem pL_PK {M : iM} {p c a n : Nat} (h : CP M p c a n) (h2 : fI M p ≠ -1) (hv : ∀ i, i < a → vr (M 32) (M 8) i ≤ 255) : ∀ i, i ≤ a → PK (M 32) (M 8) i (pL M p i) := by
  refine PK_all (kK_PK h) h.hN hv (fun k hk => (h.hB k hk).1) (fun h1 => ?_) (fun i hi => ?_) h.hZ (tN_b h.ht)
  · have := fI_b h h1 h2
    omega
  · have := smZ_b h.hZ i hi
    have := h.ha4
    omega
