def FO (o : Nat) : List Nat := [11, 17, 18, 19, 20, 21, 22, 23, 24, 25, 26, 27, 28, 29, 30, 33, o, o + 1]
/-- what stands planned after a plan that found room -/
abbrev Pd (M M' : iM) (p o : Nat) : Prop := (M' o 1 = (pN M p : Int)) ∧ (M' o 2 = (M p 2 + 1) % 256) ∧ (M' o 3 = qI M p) ∧ (M' o 4 = (mE M p : Int)) ∧ (∀ j, j < 7 * pN M p → M' (o + 1) j = (pL M p (aN M)).2 j) ∧ (0 < aN M → M' 11 6 = fI M p ∧ M' 11 4 = (zB M : Int) ∧ M' 30 0 = ((chs (M 7) (M 5 7).toNat 4).1 : Int) ∧ M' 30 1 = M 5 7 ∧ M' 30 2 = ((chs (M 7) (M 5 7).toNat 4).2 : Int) ∧ ∀ k, k < (chs (M 7) (M 5 7).toNat 4).2 → M' 30 (3 + k) = pk (eN (M 7) (M 5 7).toNat (chs (M 7) (M 5 7).toNat 4).1) k)
theorem Pd.h1 {M M' : iM} {p o : Nat} (h : Pd M M' p o) : M' o 1 = (pN M p : Int) := h.1
theorem Pd.h2 {M M' : iM} {p o : Nat} (h : Pd M M' p o) : M' o 2 = (M p 2 + 1) % 256 := h.2.1
theorem Pd.h3 {M M' : iM} {p o : Nat} (h : Pd M M' p o) : M' o 3 = qI M p := h.2.2.1
theorem Pd.h4 {M M' : iM} {p o : Nat} (h : Pd M M' p o) : M' o 4 = (mE M p : Int) := h.2.2.2.1
theorem Pd.hw {M M' : iM} {p o : Nat} (h : Pd M M' p o) : ∀ j, j < 7 * pN M p → M' (o + 1) j = (pL M p (aN M)).2 j := h.2.2.2.2.1
theorem Pd.hb {M M' : iM} {p o : Nat} (h : Pd M M' p o) : 0 < aN M → M' 11 6 = fI M p ∧ M' 11 4 = (zB M : Int) ∧ M' 30 0 = ((chs (M 7) (M 5 7).toNat 4).1 : Int) ∧ M' 30 1 = M 5 7 ∧ M' 30 2 = ((chs (M 7) (M 5 7).toNat 4).2 : Int) ∧ ∀ k, k < (chs (M 7) (M 5 7).toNat 4).2 → M' 30 (3 + k) = pk (eN (M 7) (M 5 7).toNat (chs (M 7) (M 5 7).toNat 4).1) k := h.2.2.2.2.2
set_option maxRecDepth 100000 in
theorem c_planCommit {b : Bool} {M : iM} {p o c a n : Nat} (hb : BP b p o) (h : CP M p c a n) : ∃ M', irun none zp_22 0 (i_ent [iP 0, iI (tN M)] 3) [] (SH b) M 0 0 (some (bz (okC M p)), SH b, M') ∧ Fr (FO o) M M' ∧ (okC M p → Pd M M' p o) := by
  have n96 := CP_n h
  have hob := CP_oB h
  have ea : aN M = a := by unfold aN; rw [h.ha]; rfl
  have en : (M 5 7).toNat = n := by rw [h.hn]; rfl
  have ec : (M p 1).toNat = c := by rw [h.hc]; rfl
  have ek : kK M p = kpN (M 10) (M (p + 1)) c := by unfold kK; rw [ec]
  have kb := kK_b h
  have kpk := kK_PK h
  have h10 := h.h10
  have ha4 := h.ha4
  -- the index's place, in all cases
  have fin : ∀ (M3 : iM), M3 p = M p → M3 (p + 1) = M (p + 1) → Fr (FO o) M M3 → M3 o 1 = (pN M p : Int) → M3 o 2 = (M p 2 + 1) % 256 → M3 o 3 = 0 → M3 o 4 = 0 → (∀ j, j < 7 * pN M p → M3 (o + 1) j = (pL M p a).2 j) → pN M p ≤ 10 → fI M p ≠ -1 → (∀ i, i < a → vr (M 32) (M 8) i ≤ 255) → (0 < a → M3 11 6 = fI M p ∧ M3 11 4 = (zB M : Int) ∧ M3 30 0 = ((chs (M 7) n 4).1 : Int) ∧ M3 30 1 = M 5 7 ∧ M3 30 2 = ((chs (M 7) n 4).2 : Int) ∧ ∀ k, k < (chs (M 7) n 4).2 → M3 30 (3 + k) = pk (eN (M 7) n (chs (M 7) n 4).1) k) → ∃ M', irun none zp_22 127 [some (iP 0), some (iI (tN M)), some (iI (c : Int))] [] (SH b) M3 0 0 (some (bz (okC M p)), SH b, M') ∧ Fr (FO o) M M' ∧ (okC M p → Pd M M' p o) := by
    intro M3 e1 e2 fr m1 m2 m3 m4 mw hp10 hf1 hv hblk
    have hPK := pL_PK h hf1 hv a (Nat.le_refl _)
    have ePn : (pL M p a).1 = pN M p := by
      unfold pL pN
      rw [plN_n, ea]
    have oi : oB M3 p c := by
      obtain ⟨q1, q2, q3, q4, q5⟩ := hob
      refine ⟨by rw [e1]; exact q1, q2, by rw [e1]; exact q3, by rw [e1]; exact q4, by rw [e2]; exact q5⟩
    have oo : oB M3 o (pN M p) := by
      refine ⟨m1, hp10, by rw [m3]; omega, by rw [m4]; omega, fun k hk => ?_⟩
      rw [mw _ (by omega), mw _ (by omega)]
      obtain ⟨⟨_, _, e1, e2, e3, _⟩, _⟩ := hPK.2 k (by omega)
      have e1 : 2 ≤ (pL M p a).2 (7 * k + 2) := e1
      have e2 : 1 ≤ (pL M p a).2 (7 * k + 3) := e2
      have e3 : (pL M p a).2 (7 * k + 2) + (pL M p a).2 (7 * k + 3) ≤ 48 := e3
      omega
    have hU : ∀ s, (oM M3 p c s ∨ oM M3 o (pN M p) s) ↔ (oM M p (M p 1).toNat s ∨ (fI M p ≤ s ∧ s < fI M p + (sE M : Int))) := by
      intro s
      rw [ec]
      have eo : oM M3 p c s ↔ oM M p c s := by unfold oM; rw [e1, e2]
      obtain ⟨o1, o2, o3⟩ := plN_occ (K := kK M p) (B := M 32) (N := M 8) (Z := M 9) (f := fI M p) (s := (sE M : Int)) (t := tN M) a
      have ePn' : (plN (kK M p) (M 32) (M 8) (M 9) (fI M p) (sE M : Int) (tN M) a).1 = pN M p := ePn
      have mw' : ∀ j, j < 7 * pN M p → M3 (o + 1) j = (plN (kK M p) (M 32) (M 8) (M 9) (fI M p) (sE M : Int) (tN M) a).2 j := mw
      rw [ePn'] at o1 o2
      constructor
      · rintro (q | q)
        · exact Or.inl (eo.1 q)
        · unfold oM oU at q
          rw [m3, m4] at q
          rcases q with q | ⟨k, k1, k2, k3⟩
          · omega
          · rw [mw' _ (by omega)] at k2
            rw [mw' _ (by omega), mw' _ (by omega)] at k3
            rcases o1 k k1 with ⟨j, j1, j2, j3⟩ | ⟨j2, j3⟩
            · left
              rw [j2] at k2 k3
              rw [j3] at k3
              rw [ek] at j1 k2 k3
              obtain ⟨i, i1, _, i3⟩ := (kp_ok (G := M 10) h.hS c (Nat.le_refl _)).2.1 j j1
              rw [i3 2 (by omega)] at k2 k3
              rw [i3 3 (by omega)] at k3
              exact Or.inr ⟨i, i1, k2, k3⟩
            · right
              omega
      · rintro (q | q)
        · exact Or.inl (eo.2 q)
        · right
          by_cases a0 : 0 < a
          · obtain ⟨k, k1, k2, k3⟩ := o2 a0
            refine Or.inr ⟨k, k1, ?_, ?_⟩
            · rw [mw' _ (by omega)]; omega
            · rw [mw' _ (by omega), mw' _ (by omega)]; omega
          · exfalso
            have : fI M p = 0 := by unfold fI; rw [if_pos (by omega)]
            have : sE M = 0 := by unfold sE; rw [if_pos (by omega)]
            omega
    have idx := c_planIdx (b := b) hb oi oo rfl
    have eq2 : fpl (fun s => oM M3 p c s ∨ oM M3 o (pN M p) s) (((1 + 7 * pN M p + 10) / 11 : Nat) : Int) 46 2 0 = fpl (fun s => oM M p (M p 1).toNat s ∨ (fI M p ≤ s ∧ s < fI M p + (sE M : Int))) (((1 + 7 * pN M p + 10) / 11 : Nat) : Int) 46 2 0 := fpl_c 46 2 0 (fun x _ _ => hU x)
    rw [eq2] at idx
    by_cases c0 : pN M p = 0
    · rw [if_pos c0] at idx
      have q0 : qI M p = 0 := by unfold qI; rw [if_pos c0]
      have me0 : mE M p = 0 := by unfold mE; rw [if_pos c0]
      have ok : okC M p := ⟨⟨hp10, hf1, by rw [ea]; exact hv⟩, by omega⟩
      refine ⟨M3, ?_, fr, fun _ => ⟨m1, m2, by rw [m3, q0], by rw [m4, me0]; rfl, by rw [ea]; exact mw, by rw [ea, en]; exact hblk⟩⟩
      rw [bz_t ok]
      refine i_aload_n rfl rfl ?_
      -- at 128
      refine i_call (T := (24, zp_24)) rfl rfl (idx) rfl rfl rfl rfl rfl rfl rfl ?_
      try dsimp only
      show irun none zp_22 131 _ (iI ((1 : Int)) :: _) _ _ 0 0 _
      exact i_zreturn rfl rfl (by first | omega | assumption)
    · rw [if_neg c0] at idx
      have me : mE M p = (1 + 7 * pN M p + 10) / 11 := by unfold mE; rw [if_neg c0]
      have q0 : qI M p = fpl (fun s => oM M p (M p 1).toNat s ∨ (fI M p ≤ s ∧ s < fI M p + (sE M : Int))) (((1 + 7 * pN M p + 10) / 11 : Nat) : Int) 46 2 0 := by
        unfold qI
        rw [if_neg c0, me]
      rw [← q0, ← me] at idx
      by_cases c1 : qI M p = -1
      · rw [if_pos c1] at idx
        refine ⟨M3, ?_, fr, fun q => absurd c1 q.2⟩
        rw [bz_f (fun q => q.2 c1)]
        refine i_aload_n rfl rfl ?_
        -- at 128
        refine i_call (T := (24, zp_24)) rfl rfl (idx) rfl rfl rfl rfl rfl rfl rfl ?_
        try dsimp only
        show irun none zp_22 131 _ (iI ((0 : Int)) :: _) _ _ 0 0 _
        exact i_zreturn rfl rfl (by first | omega | assumption)
      · rw [if_neg c1] at idx
        have ok : okC M p := ⟨⟨hp10, hf1, by rw [ea]; exact hv⟩, c1⟩
        have no11 : (11 : Nat) ≠ o := by rcases hb with ⟨_, _, rfl⟩ | ⟨_, _, rfl⟩ <;> decide
        have no30 : (30 : Nat) ≠ o := by rcases hb with ⟨_, _, rfl⟩ | ⟨_, _, rfl⟩ <;> decide
        have ow : ∀ (x : Nat), x ≠ o → (i_st (i_st M3 o 3 (qI M p)) o 4 (mE M p : Int)) x = M3 x := by
          intro x hx
          unfold i_st
          rw [up_n hx, up_n hx]
        have oo2 : ∀ u, u ≠ 3 → u ≠ 4 → (i_st (i_st M3 o 3 (qI M p)) o 4 (mE M p : Int)) o u = M3 o u := by
          intro u u1 u2
          unfold i_st
          rw [up_s, up_n u2, up_s, up_n u1]
        refine ⟨i_st (i_st M3 o 3 (qI M p)) o 4 (mE M p : Int), ?_, Fr_st (Fr_st fr (by simp [FO])) (by simp [FO]), fun _ => ⟨?_, ?_, ?_, ?_, ?_, ?_⟩⟩
        · rw [bz_t ok]
          refine i_aload_n rfl rfl ?_
          -- at 128
          refine i_call (T := (24, zp_24)) rfl rfl (idx) rfl rfl rfl rfl rfl rfl rfl ?_
          try dsimp only
          show irun none zp_22 131 _ (iI ((1 : Int)) :: _) _ _ 0 0 _
          exact i_zreturn rfl rfl (by first | omega | assumption)
        · rw [oo2 1 (by decide) (by decide)]; exact m1
        · rw [oo2 2 (by decide) (by decide)]; exact m2
        · unfold i_st
          rw [up_s, up_n (by decide), up_s, up_s]
        · unfold i_st
          rw [up_s, up_s]
        · rw [ea, ow _ (by omega)]; exact mw
        · rw [ea, en, ow 11 no11, ow 30 no30]; exact hblk
  have hsm : ∀ k, k ≤ a → 0 ≤ sm (M 9) k ∧ sm (M 9) k ≤ 255 := fun k hk => by
    have := smZ_b h.hZ k hk
    omega
  have nx := h.h2
  have hno : ¬ pN M p ≤ 10 → ¬ okC M p := fun q z => q z.1.1
  rcases hb with ⟨rfl, rfl, rfl⟩ | ⟨rfl, rfl, rfl⟩
  · obtain ⟨M0, i1, i2, i3, i4, i5, i6⟩ := c_iclear (b := false) (M := M) (p := 38) (by decide)
    have cn := c_next (b := false) (M := M0) (p := 36) (by decide) (by rw [i2 36 (by decide)]; omega)
    rw [i2 36 (by decide)] at cn
    have kloop : ∀ (d k : Nat) (M1 : iM), k + d = c → Fr [38, 38 + 1] M M1 → M1 38 1 = ((kpN (M 10) (M (36 + 1)) k).1 : Int) → M1 38 2 = (M 36 2 + 1) % 256 → M1 38 3 = 0 → M1 38 4 = 0 → (∀ j, j < 7 * (kpN (M 10) (M (36 + 1)) k).1 → M1 (38 + 1) j = (kpN (M 10) (M (36 + 1)) k).2 j) → ∃ M2, (∀ q, irun none zp_22 64 [some (iP 0), some (iI (tN M)), some (iI (c : Int))] [] (SH false) M2 0 0 q → irun none zp_22 23 [some (iP 0), some (iI (tN M)), some (iI (k : Int))] [] (SH false) M1 0 0 q) ∧ Fr [38, 38 + 1] M M2 ∧ M2 38 1 = ((kpN (M 10) (M (36 + 1)) c).1 : Int) ∧ M2 38 2 = (M 36 2 + 1) % 256 ∧ M2 38 3 = 0 ∧ M2 38 4 = 0 ∧ (∀ j, j < 7 * (kpN (M 10) (M (36 + 1)) c).1 → M2 (38 + 1) j = (kpN (M 10) (M (36 + 1)) c).2 j) := by
      intro d
      induction d with
      | zero =>
        intro k M1 hk fr m1 m2 m3 m4 mw
        obtain rfl : k = c := by omega
        have hc1 : M1 36 1 = (k : Int) := by rw [fr 36 (by decide)]; exact h.hc
        refine ⟨M1, fun q hq => ?_, fr, m1, m2, m3, m4, mw⟩
        refine i_iload_n rfl rfl ?_
        refine i_aload_n rfl rfl ?_
        refine i_getr (p2 := 36) rfl rfl rfl rfl (by decide) rfl ?_
        refine i_getf rfl rfl rfl rfl (by decide) ?_
        refine i_icmp_ge_t rfl (by first | omega | assumption) ?_
        -- at 64
        exact hq
      | succ d ih =>
        intro k M1 hk fr m1 m2 m3 m4 mw
        have hc1 : M1 36 1 = (c : Int) := by rw [fr 36 (by decide)]; exact h.hc
        have g10 : M1 10 k = M 10 k := by rw [fr 10 (by decide)]
        have kb := (kp_ok (G := M 10) h.hS k (by omega)).1
        rcases h.hG k (by omega) with g | g
        · have ekk : kpN (M 10) (M (36 + 1)) (k + 1) = ((kpN (M 10) (M (36 + 1)) k).1 + 1, fun j => if j < 7 * (kpN (M 10) (M (36 + 1)) k).1 then (kpN (M 10) (M (36 + 1)) k).2 j else M (36 + 1) (7 * k + (j - 7 * (kpN (M 10) (M (36 + 1)) k).1))) := by
            show (if M 10 k = 0 then _ else _) = _
            rw [if_pos g]
          obtain ⟨M2, a1, a2, a3, a4, a5⟩ := c_iapp (b := false) (M := M1) (p := 38) (q := 36) (k := k) (by decide) m1 (by omega) (by omega)
          obtain ⟨M3, k1, k2⟩ := ih (k + 1) M2 (by omega) (Fr_t fr a2 (by decide)) (by rw [ekk]; exact a3) (by rw [a4 2 (by decide)]; exact m2) (by rw [a4 3 (by decide)]; exact m3) (by rw [a4 4 (by decide)]; exact m4) (fun j hj => by
            rw [ekk] at hj ⊢
            rw [a5 j hj]
            show _ = if j < 7 * (kpN (M 10) (M (36 + 1)) k).1 then (kpN (M 10) (M (36 + 1)) k).2 j else M (36 + 1) (7 * k + (j - 7 * (kpN (M 10) (M (36 + 1)) k).1))
            by_cases e : j < 7 * (kpN (M 10) (M (36 + 1)) k).1
            · rw [if_pos e, if_pos e]; exact mw j e
            · rw [if_neg e, if_neg e, fr (36 + 1) (by decide)])
          refine ⟨M3, fun q hq => ?_, k2⟩
          have k1 := k1 q hq
          refine i_iload_n rfl rfl ?_
          refine i_aload_n rfl rfl ?_
          refine i_getr (p2 := 36) rfl rfl rfl rfl (by decide) rfl ?_
          refine i_getf rfl rfl rfl rfl (by decide) ?_
          refine i_icmp_ge_f rfl (by first | omega | assumption) ?_
          refine i_aload_n rfl rfl ?_
          refine i_getr rfl rfl rfl rfl (by decide) rfl ?_
          refine i_getr rfl rfl rfl rfl (by decide) rfl ?_
          refine i_iload_n rfl rfl ?_
          refine i_bald rfl rfl (by first | omega | assumption) (by first | omega | assumption) ?_
          -- at 43
          rw [show (k : Int).toNat = k by omega, g10, g]
          refine i_if_ne_f rfl (by first | omega | assumption) ?_
          refine i_aload_n rfl rfl ?_
          refine i_getr (p2 := 38) rfl rfl rfl rfl (by decide) rfl ?_
          refine i_aload_n rfl rfl ?_
          refine i_getr (p2 := 36) rfl rfl rfl rfl (by decide) rfl ?_
          refine i_iload_n rfl rfl ?_
          -- at 55
          refine i_call (T := (60, zp_60)) rfl rfl (a1) rfl rfl rfl rfl rfl rfl rfl ?_
          try dsimp only
          refine i_iinc rfl rfl (by unfold iR; omega) (Nat.le_of_ble_eq_true rfl) rfl ?_
          refine i_goto rfl ?_
          -- at 23
          exact k1
        · have ekk : kpN (M 10) (M (36 + 1)) (k + 1) = kpN (M 10) (M (36 + 1)) k := by
            show (if M 10 k = 0 then _ else _) = _
            rw [if_neg (by omega)]
          obtain ⟨M3, k1, k2⟩ := ih (k + 1) M1 (by omega) fr (by rw [ekk]; exact m1) m2 m3 m4 (by rw [ekk]; exact mw)
          refine ⟨M3, fun q hq => ?_, k2⟩
          have k1 := k1 q hq
          refine i_iload_n rfl rfl ?_
          refine i_aload_n rfl rfl ?_
          refine i_getr (p2 := 36) rfl rfl rfl rfl (by decide) rfl ?_
          refine i_getf rfl rfl rfl rfl (by decide) ?_
          refine i_icmp_ge_f rfl (by first | omega | assumption) ?_
          refine i_aload_n rfl rfl ?_
          refine i_getr rfl rfl rfl rfl (by decide) rfl ?_
          refine i_getr rfl rfl rfl rfl (by decide) rfl ?_
          refine i_iload_n rfl rfl ?_
          refine i_bald rfl rfl (by first | omega | assumption) (by first | omega | assumption) ?_
          -- at 43
          rw [show (k : Int).toNat = k by omega, g10, g]
          refine i_if_ne_t rfl (by first | omega | assumption) ?_
          refine i_iinc rfl rfl (by unfold iR; omega) (Nat.le_of_ble_eq_true rfl) rfl ?_
          refine i_goto rfl ?_
          -- at 23
          exact k1
    obtain ⟨M1, k1, fr1, m1, m2, m3, m4, mw⟩ := kloop c 0 (i_st M0 38 2 ((M 36 2 + 1) % 256)) (by omega) (Fr_st (Fr_t (Fr_r _ _) i2 (by decide)) (by decide)) i3 rfl i5 i6 (fun j hj => absurd hj (Nat.not_lt_zero _))
    rw [← ek] at m1 mw
    have ha1 : M1 5 6 = (a : Int) := by rw [fr1 5 (by decide)]; exact h.ha
    have pre : ∀ q, irun none zp_22 64 [some (iP 0), some (iI (tN M)), some (iI (c : Int))] [] (SH false) M1 0 0 q → irun none zp_22 0 (i_ent [iP 0, iI (tN M)] 3) [] (SH false) M 0 0 q := by
      intro q hq
      refine i_aload_n rfl rfl ?_
      refine i_getr (p2 := 38) rfl rfl rfl rfl (by decide) rfl ?_
      -- at 4
      refine i_call (T := (53, zp_53)) rfl rfl (i1) rfl rfl rfl rfl rfl rfl rfl ?_
      try dsimp only
      refine i_aload_n rfl rfl ?_
      refine i_getr (p2 := 38) rfl rfl rfl rfl (by decide) rfl ?_
      refine i_aload_n rfl rfl ?_
      refine i_getr (p2 := 36) rfl rfl rfl rfl (by decide) rfl ?_
      -- at 15
      refine i_call (T := (54, zp_54)) rfl rfl (cn) rfl rfl rfl rfl rfl rfl rfl ?_
      try dsimp only
      show irun none zp_22 18 _ (iI ((M 36 2 + 1) % 256) :: _) _ _ 0 0 _
      refine i_puti rfl rfl rfl rfl ?_
      refine i_iconst (n := 0) rfl (by unfold iR; omega) ?_
      refine i_istore_n rfl (Nat.le_of_ble_eq_true rfl) rfl ?_
      -- at 23
      exact k1 q hq
    have frO : Fr (FO 38) M M1 := Fr_t (Fr_r _ _) fr1 (by decide)
    by_cases full : pN M 36 ≤ 10
    · have full2 : (kK M 36).1 + aN M ≤ 10 := full
      by_cases a0 : a = 0
      · have f0 : fI M 36 = 0 := by unfold fI; rw [if_pos (by omega)]
        obtain ⟨M', r1, r2⟩ := fin M1 (fr1 36 (by decide)) (fr1 (36 + 1) (by decide)) frO (by rw [m1]; show _ = (((kK M 36).1 + aN M : Nat) : Int); rw [ea, a0]; rfl) m2 m3 m4 (fun j hj => by
          rw [a0]
          exact mw j (by have hj : j < 7 * ((kK M 36).1 + aN M) := hj; omega)) full (by omega) (fun i hi => by omega) (fun q => by omega)
        refine ⟨M', pre _ ?_, r2⟩
        refine i_aload_n rfl rfl ?_
        refine i_getr (p2 := 38) rfl rfl rfl rfl (by decide) rfl ?_
        refine i_getf rfl rfl rfl rfl (by decide) ?_
        refine i_aload_n rfl rfl ?_
        refine i_getr rfl rfl rfl rfl (by decide) rfl ?_
        refine i_getf rfl rfl rfl rfl (by decide) ?_
        refine i_iadd rfl (by unfold iR; omega) ?_
        refine i_bipush (n := 10) rfl (by unfold iR; omega) (by decide) ?_
        refine i_icmp_le_t rfl (by first | omega | assumption) ?_
        refine i_aload_n rfl rfl ?_
        refine i_getr rfl rfl rfl rfl (by decide) rfl ?_
        refine i_getf rfl rfl rfl rfl (by decide) ?_
        refine i_if_le_t rfl (by first | omega | assumption) ?_
        -- at 127
        exact r1
      · obtain ⟨M2, b1, b2, b3, b4, b5, b6, b7, b8⟩ := c_pack (b := false) (M := M1) (S := M 7) (n := n) (fun j hj => by
          rw [fr1 7 (by decide)]
          exact ⟨rfl, h.hY j hj⟩) n96
        have fr2 : Fr (FO 38) M M2 := Fr_t frO b2 (by decide)
        have ez : M2 11 4 = (zB M : Int) := by
          rw [b7]
          unfold zB
          rw [en]
          omega
        have hzb : zB M ≤ 99 := by
          unfold zB
          rw [en]
          have := (chs_b (S := M 7) n96 3).1
          have this : (chs (M 7) n 4).2 ≤ n := this
          omega
        have es : sE M = (zB M + 10) / 11 := by unfold sE; rw [if_neg (by omega)]
        have hw2 : ∀ j, j < 7 * (kK M 36).1 → M2 (38 + 1) j = (kK M 36).2 j := fun j hj => by rw [b2 (38 + 1) (by decide)]; exact mw j hj
        have q3 : M2 38 3 = 0 := by rw [b2 38 (by decide)]; exact m3
        have q4 : M2 38 4 = 0 := by rw [b2 38 (by decide)]; exact m4
        have ep : M2 36 = M 36 := fr2 36 (by decide)
        have ep1 : M2 (36 + 1) = M (36 + 1) := fr2 (36 + 1) (by decide)
        have ef : fpl (fun s => oM M2 36 c s ∨ oM M2 38 (kK M 36).1 s) (((zB M + 10) / 11 : Nat) : Int) 46 2 0 = fI M 36 := by
          unfold fI
          rw [if_neg (by omega), ec, es]
          exact fpl_c 46 2 0 (fun x _ _ => occ_kept h q3 q4 hw2 ep ep1 x)
        have oi : oB M2 36 c := by
          obtain ⟨q1, q2, q3, q4, q5⟩ := hob
          refine ⟨by rw [ep]; exact q1, q2, by rw [ep]; exact q3, by rw [ep]; exact q4, by rw [ep1]; exact q5⟩
        have oo : oB M2 38 (kK M 36).1 := by
          refine ⟨by rw [b2 38 (by decide)]; exact m1, by omega, by rw [q3]; omega, by rw [q4]; omega, fun k hk => ?_⟩
          rw [hw2 _ (by omega), hw2 _ (by omega)]
          obtain ⟨⟨_, _, e1, e2, e3, _⟩, _⟩ := kpk.2 k hk
          have e1 : 2 ≤ (kK M 36).2 (7 * k + 2) := e1
          have e2 : 1 ≤ (kK M 36).2 (7 * k + 3) := e2
          have e3 : (kK M 36).2 (7 * k + 2) + (kK M 36).2 (7 * k + 3) ≤ 48 := e3
          omega
        obtain ⟨M3, d1, d2, d3, d4, d5⟩ := c_planBlock (b := false) (p := 36) (o := 38) (a := a) (z := zB M) (t := tN M) (K := kK M 36) (by unfold BP; decide) ez (by unfold zB; omega) (by omega) (by rw [fr2 5 (by decide)]; exact h.ha) ha4 (by omega) rfl oi oo hw2 (by rw [fr2 8 (by decide)]; exact h.hN) (by rw [fr2 9 (by decide)]; exact h.hZ) (by rw [fr2 32 (by decide)]; exact h.hB) (by rw [fr2 9 (by decide)]; exact hsm) rfl
        rw [ef, fr2 32 (by decide), fr2 8 (by decide)] at d1 d5
        have fr3 : Fr (FO 38) M M3 := Fr_t fr2 d2 (by decide)
        have hn1 : M1 5 7 = (n : Int) := by rw [fr1 5 (by decide)]; exact h.hn
        have mid : ∀ q, irun none zp_22 122 [some (iP 0), some (iI (tN M)), some (iI (c : Int))] [iI (bz (fI M 36 ≠ -1 ∧ ∀ i, i < a → vr (M 32) (M 8) i ≤ 255))] (SH false) M3 0 0 q → irun none zp_22 64 [some (iP 0), some (iI (tN M)), some (iI (c : Int))] [] (SH false) M1 0 0 q := by
          intro q hq
          refine i_aload_n rfl rfl ?_
          refine i_getr (p2 := 38) rfl rfl rfl rfl (by decide) rfl ?_
          refine i_getf rfl rfl rfl rfl (by decide) ?_
          refine i_aload_n rfl rfl ?_
          refine i_getr rfl rfl rfl rfl (by decide) rfl ?_
          refine i_getf rfl rfl rfl rfl (by decide) ?_
          refine i_iadd rfl (by unfold iR; omega) ?_
          refine i_bipush (n := 10) rfl (by unfold iR; omega) (by decide) ?_
          refine i_icmp_le_t rfl (by first | omega | assumption) ?_
          refine i_aload_n rfl rfl ?_
          refine i_getr rfl rfl rfl rfl (by decide) rfl ?_
          refine i_getf rfl rfl rfl rfl (by decide) ?_
          refine i_if_le_f rfl (by first | omega | assumption) ?_
          refine i_aload_n rfl rfl ?_
          refine i_getr rfl rfl rfl rfl (by decide) rfl ?_
          refine i_aload_n rfl rfl ?_
          refine i_getr rfl rfl rfl rfl (by decide) rfl ?_
          refine i_getr rfl rfl rfl rfl (by decide) rfl ?_
          refine i_aload_n rfl rfl ?_
          refine i_getr rfl rfl rfl rfl (by decide) rfl ?_
          refine i_getf rfl rfl rfl rfl (by decide) ?_
          -- at 114
          rw [hn1]
          refine i_call (T := (106, zp_106)) rfl rfl (b1) rfl rfl rfl rfl rfl rfl rfl ?_
          try dsimp only
          refine i_aload_n rfl rfl ?_
          refine i_iload_n rfl rfl ?_
          -- at 119
          refine i_call (T := (23, zp_23)) rfl rfl (d1) rfl rfl rfl rfl rfl rfl rfl ?_
          try dsimp only
          exact hq
        by_cases good : fI M 36 ≠ -1 ∧ ∀ i, i < a → vr (M 32) (M 8) i ≤ 255
        · obtain ⟨g1, g2⟩ := good
          rw [bz_t ⟨g1, g2⟩] at mid
          obtain ⟨d6, d7, d8⟩ := d5 g1 g2
          obtain ⟨M', r1, r2⟩ := fin M3 (by rw [fr3 36 (by decide)]) (by rw [fr3 (36 + 1) (by decide)]) fr3 (by rw [d7]; show _ = (((kK M 36).1 + aN M : Nat) : Int); rw [ea]) (by rw [d4 2 (by decide), b2 38 (by decide)]; exact m2) (by rw [d4 3 (by decide)]; exact q3) (by rw [d4 4 (by decide)]; exact q4) (fun j hj => by
            have hj : j < 7 * ((kK M 36).1 + aN M) := hj
            rw [d8 j (by omega), fr2 9 (by decide), ← es]
            rfl) full g1 g2 (fun _ => by
            refine ⟨d6, by rw [d3 4 (by decide)]; exact ez, by rw [d2 30 (by decide)]; exact b3, by rw [d2 30 (by decide), h.hn]; exact b4, by rw [d2 30 (by decide)]; exact b5, fun k hk => by rw [d2 30 (by decide)]; exact b6 k hk⟩)
          refine ⟨M', pre _ (mid _ ?_), r2⟩
          refine i_if_ne_t rfl (by first | omega | assumption) ?_
          -- at 127
          exact r1
        · rw [bz_f good] at mid
          have nok : ¬ okC M 36 := fun q => good ⟨q.1.2.1, by have := q.1.2.2; rw [ea] at this; exact this⟩
          refine ⟨M3, pre _ (mid _ ?_), fr3, fun q => absurd q nok⟩
          rw [bz_f nok]
          refine i_if_ne_f rfl (by first | omega | assumption) ?_
          refine i_iconst (n := 0) rfl (by unfold iR; omega) ?_
          -- at 126
          exact i_zreturn rfl rfl (by first | omega | assumption)
    · refine ⟨M1, pre _ ?_, frO, fun q => absurd q (hno full)⟩
      have full2 : ¬ ((kK M 36).1 + aN M ≤ 10) := full
      rw [bz_f (hno full)]
      refine i_aload_n rfl rfl ?_
      refine i_getr (p2 := 38) rfl rfl rfl rfl (by decide) rfl ?_
      refine i_getf rfl rfl rfl rfl (by decide) ?_
      refine i_aload_n rfl rfl ?_
      refine i_getr rfl rfl rfl rfl (by decide) rfl ?_
      refine i_getf rfl rfl rfl rfl (by decide) ?_
      refine i_iadd rfl (by unfold iR; omega) ?_
      refine i_bipush (n := 10) rfl (by unfold iR; omega) (by decide) ?_
      refine i_icmp_le_f rfl (by first | omega | assumption) ?_
      refine i_iconst (n := 0) rfl (by unfold iR; omega) ?_
      -- at 85
      exact i_zreturn rfl rfl (by first | omega | assumption)
  · obtain ⟨M0, i1, i2, i3, i4, i5, i6⟩ := c_iclear (b := true) (M := M) (p := 36) (by decide)
    have cn := c_next (b := true) (M := M0) (p := 38) (by decide) (by rw [i2 38 (by decide)]; omega)
    rw [i2 38 (by decide)] at cn
    have kloop : ∀ (d k : Nat) (M1 : iM), k + d = c → Fr [36, 36 + 1] M M1 → M1 36 1 = ((kpN (M 10) (M (38 + 1)) k).1 : Int) → M1 36 2 = (M 38 2 + 1) % 256 → M1 36 3 = 0 → M1 36 4 = 0 → (∀ j, j < 7 * (kpN (M 10) (M (38 + 1)) k).1 → M1 (36 + 1) j = (kpN (M 10) (M (38 + 1)) k).2 j) → ∃ M2, (∀ q, irun none zp_22 64 [some (iP 0), some (iI (tN M)), some (iI (c : Int))] [] (SH true) M2 0 0 q → irun none zp_22 23 [some (iP 0), some (iI (tN M)), some (iI (k : Int))] [] (SH true) M1 0 0 q) ∧ Fr [36, 36 + 1] M M2 ∧ M2 36 1 = ((kpN (M 10) (M (38 + 1)) c).1 : Int) ∧ M2 36 2 = (M 38 2 + 1) % 256 ∧ M2 36 3 = 0 ∧ M2 36 4 = 0 ∧ (∀ j, j < 7 * (kpN (M 10) (M (38 + 1)) c).1 → M2 (36 + 1) j = (kpN (M 10) (M (38 + 1)) c).2 j) := by
      intro d
      induction d with
      | zero =>
        intro k M1 hk fr m1 m2 m3 m4 mw
        obtain rfl : k = c := by omega
        have hc1 : M1 38 1 = (k : Int) := by rw [fr 38 (by decide)]; exact h.hc
        refine ⟨M1, fun q hq => ?_, fr, m1, m2, m3, m4, mw⟩
        refine i_iload_n rfl rfl ?_
        refine i_aload_n rfl rfl ?_
        refine i_getr (p2 := 38) rfl rfl rfl rfl (by decide) rfl ?_
        refine i_getf rfl rfl rfl rfl (by decide) ?_
        refine i_icmp_ge_t rfl (by first | omega | assumption) ?_
        -- at 64
        exact hq
      | succ d ih =>
        intro k M1 hk fr m1 m2 m3 m4 mw
        have hc1 : M1 38 1 = (c : Int) := by rw [fr 38 (by decide)]; exact h.hc
        have g10 : M1 10 k = M 10 k := by rw [fr 10 (by decide)]
        have kb := (kp_ok (G := M 10) h.hS k (by omega)).1
        rcases h.hG k (by omega) with g | g
        · have ekk : kpN (M 10) (M (38 + 1)) (k + 1) = ((kpN (M 10) (M (38 + 1)) k).1 + 1, fun j => if j < 7 * (kpN (M 10) (M (38 + 1)) k).1 then (kpN (M 10) (M (38 + 1)) k).2 j else M (38 + 1) (7 * k + (j - 7 * (kpN (M 10) (M (38 + 1)) k).1))) := by
            show (if M 10 k = 0 then _ else _) = _
            rw [if_pos g]
          obtain ⟨M2, a1, a2, a3, a4, a5⟩ := c_iapp (b := true) (M := M1) (p := 36) (q := 38) (k := k) (by decide) m1 (by omega) (by omega)
          obtain ⟨M3, k1, k2⟩ := ih (k + 1) M2 (by omega) (Fr_t fr a2 (by decide)) (by rw [ekk]; exact a3) (by rw [a4 2 (by decide)]; exact m2) (by rw [a4 3 (by decide)]; exact m3) (by rw [a4 4 (by decide)]; exact m4) (fun j hj => by
            rw [ekk] at hj ⊢
            rw [a5 j hj]
            show _ = if j < 7 * (kpN (M 10) (M (38 + 1)) k).1 then (kpN (M 10) (M (38 + 1)) k).2 j else M (38 + 1) (7 * k + (j - 7 * (kpN (M 10) (M (38 + 1)) k).1))
            by_cases e : j < 7 * (kpN (M 10) (M (38 + 1)) k).1
            · rw [if_pos e, if_pos e]; exact mw j e
            · rw [if_neg e, if_neg e, fr (38 + 1) (by decide)])
          refine ⟨M3, fun q hq => ?_, k2⟩
          have k1 := k1 q hq
          refine i_iload_n rfl rfl ?_
          refine i_aload_n rfl rfl ?_
          refine i_getr (p2 := 38) rfl rfl rfl rfl (by decide) rfl ?_
          refine i_getf rfl rfl rfl rfl (by decide) ?_
          refine i_icmp_ge_f rfl (by first | omega | assumption) ?_
          refine i_aload_n rfl rfl ?_
          refine i_getr rfl rfl rfl rfl (by decide) rfl ?_
          refine i_getr rfl rfl rfl rfl (by decide) rfl ?_
          refine i_iload_n rfl rfl ?_
          refine i_bald rfl rfl (by first | omega | assumption) (by first | omega | assumption) ?_
          -- at 43
          rw [show (k : Int).toNat = k by omega, g10, g]
          refine i_if_ne_f rfl (by first | omega | assumption) ?_
          refine i_aload_n rfl rfl ?_
          refine i_getr (p2 := 36) rfl rfl rfl rfl (by decide) rfl ?_
          refine i_aload_n rfl rfl ?_
          refine i_getr (p2 := 38) rfl rfl rfl rfl (by decide) rfl ?_
          refine i_iload_n rfl rfl ?_
          -- at 55
          refine i_call (T := (60, zp_60)) rfl rfl (a1) rfl rfl rfl rfl rfl rfl rfl ?_
          try dsimp only
          refine i_iinc rfl rfl (by unfold iR; omega) (Nat.le_of_ble_eq_true rfl) rfl ?_
          refine i_goto rfl ?_
          -- at 23
          exact k1
        · have ekk : kpN (M 10) (M (38 + 1)) (k + 1) = kpN (M 10) (M (38 + 1)) k := by
            show (if M 10 k = 0 then _ else _) = _
            rw [if_neg (by omega)]
          obtain ⟨M3, k1, k2⟩ := ih (k + 1) M1 (by omega) fr (by rw [ekk]; exact m1) m2 m3 m4 (by rw [ekk]; exact mw)
          refine ⟨M3, fun q hq => ?_, k2⟩
          have k1 := k1 q hq
          refine i_iload_n rfl rfl ?_
          refine i_aload_n rfl rfl ?_
          refine i_getr (p2 := 38) rfl rfl rfl rfl (by decide) rfl ?_
          refine i_getf rfl rfl rfl rfl (by decide) ?_
          refine i_icmp_ge_f rfl (by first | omega | assumption) ?_
          refine i_aload_n rfl rfl ?_
          refine i_getr rfl rfl rfl rfl (by decide) rfl ?_
          refine i_getr rfl rfl rfl rfl (by decide) rfl ?_
          refine i_iload_n rfl rfl ?_
          refine i_bald rfl rfl (by first | omega | assumption) (by first | omega | assumption) ?_
          -- at 43
          rw [show (k : Int).toNat = k by omega, g10, g]
          refine i_if_ne_t rfl (by first | omega | assumption) ?_
          refine i_iinc rfl rfl (by unfold iR; omega) (Nat.le_of_ble_eq_true rfl) rfl ?_
          refine i_goto rfl ?_
          -- at 23
          exact k1
    obtain ⟨M1, k1, fr1, m1, m2, m3, m4, mw⟩ := kloop c 0 (i_st M0 36 2 ((M 38 2 + 1) % 256)) (by omega) (Fr_st (Fr_t (Fr_r _ _) i2 (by decide)) (by decide)) i3 rfl i5 i6 (fun j hj => absurd hj (Nat.not_lt_zero _))
    rw [← ek] at m1 mw
    have ha1 : M1 5 6 = (a : Int) := by rw [fr1 5 (by decide)]; exact h.ha
    have pre : ∀ q, irun none zp_22 64 [some (iP 0), some (iI (tN M)), some (iI (c : Int))] [] (SH true) M1 0 0 q → irun none zp_22 0 (i_ent [iP 0, iI (tN M)] 3) [] (SH true) M 0 0 q := by
      intro q hq
      refine i_aload_n rfl rfl ?_
      refine i_getr (p2 := 36) rfl rfl rfl rfl (by decide) rfl ?_
      -- at 4
      refine i_call (T := (53, zp_53)) rfl rfl (i1) rfl rfl rfl rfl rfl rfl rfl ?_
      try dsimp only
      refine i_aload_n rfl rfl ?_
      refine i_getr (p2 := 36) rfl rfl rfl rfl (by decide) rfl ?_
      refine i_aload_n rfl rfl ?_
      refine i_getr (p2 := 38) rfl rfl rfl rfl (by decide) rfl ?_
      -- at 15
      refine i_call (T := (54, zp_54)) rfl rfl (cn) rfl rfl rfl rfl rfl rfl rfl ?_
      try dsimp only
      show irun none zp_22 18 _ (iI ((M 38 2 + 1) % 256) :: _) _ _ 0 0 _
      refine i_puti rfl rfl rfl rfl ?_
      refine i_iconst (n := 0) rfl (by unfold iR; omega) ?_
      refine i_istore_n rfl (Nat.le_of_ble_eq_true rfl) rfl ?_
      -- at 23
      exact k1 q hq
    have frO : Fr (FO 36) M M1 := Fr_t (Fr_r _ _) fr1 (by decide)
    by_cases full : pN M 38 ≤ 10
    · have full2 : (kK M 38).1 + aN M ≤ 10 := full
      by_cases a0 : a = 0
      · have f0 : fI M 38 = 0 := by unfold fI; rw [if_pos (by omega)]
        obtain ⟨M', r1, r2⟩ := fin M1 (fr1 38 (by decide)) (fr1 (38 + 1) (by decide)) frO (by rw [m1]; show _ = (((kK M 38).1 + aN M : Nat) : Int); rw [ea, a0]; rfl) m2 m3 m4 (fun j hj => by
          rw [a0]
          exact mw j (by have hj : j < 7 * ((kK M 38).1 + aN M) := hj; omega)) full (by omega) (fun i hi => by omega) (fun q => by omega)
        refine ⟨M', pre _ ?_, r2⟩
        refine i_aload_n rfl rfl ?_
        refine i_getr (p2 := 36) rfl rfl rfl rfl (by decide) rfl ?_
        refine i_getf rfl rfl rfl rfl (by decide) ?_
        refine i_aload_n rfl rfl ?_
        refine i_getr rfl rfl rfl rfl (by decide) rfl ?_
        refine i_getf rfl rfl rfl rfl (by decide) ?_
        refine i_iadd rfl (by unfold iR; omega) ?_
        refine i_bipush (n := 10) rfl (by unfold iR; omega) (by decide) ?_
        refine i_icmp_le_t rfl (by first | omega | assumption) ?_
        refine i_aload_n rfl rfl ?_
        refine i_getr rfl rfl rfl rfl (by decide) rfl ?_
        refine i_getf rfl rfl rfl rfl (by decide) ?_
        refine i_if_le_t rfl (by first | omega | assumption) ?_
        -- at 127
        exact r1
      · obtain ⟨M2, b1, b2, b3, b4, b5, b6, b7, b8⟩ := c_pack (b := true) (M := M1) (S := M 7) (n := n) (fun j hj => by
          rw [fr1 7 (by decide)]
          exact ⟨rfl, h.hY j hj⟩) n96
        have fr2 : Fr (FO 36) M M2 := Fr_t frO b2 (by decide)
        have ez : M2 11 4 = (zB M : Int) := by
          rw [b7]
          unfold zB
          rw [en]
          omega
        have hzb : zB M ≤ 99 := by
          unfold zB
          rw [en]
          have := (chs_b (S := M 7) n96 3).1
          have this : (chs (M 7) n 4).2 ≤ n := this
          omega
        have es : sE M = (zB M + 10) / 11 := by unfold sE; rw [if_neg (by omega)]
        have hw2 : ∀ j, j < 7 * (kK M 38).1 → M2 (36 + 1) j = (kK M 38).2 j := fun j hj => by rw [b2 (36 + 1) (by decide)]; exact mw j hj
        have q3 : M2 36 3 = 0 := by rw [b2 36 (by decide)]; exact m3
        have q4 : M2 36 4 = 0 := by rw [b2 36 (by decide)]; exact m4
        have ep : M2 38 = M 38 := fr2 38 (by decide)
        have ep1 : M2 (38 + 1) = M (38 + 1) := fr2 (38 + 1) (by decide)
        have ef : fpl (fun s => oM M2 38 c s ∨ oM M2 36 (kK M 38).1 s) (((zB M + 10) / 11 : Nat) : Int) 46 2 0 = fI M 38 := by
          unfold fI
          rw [if_neg (by omega), ec, es]
          exact fpl_c 46 2 0 (fun x _ _ => occ_kept h q3 q4 hw2 ep ep1 x)
        have oi : oB M2 38 c := by
          obtain ⟨q1, q2, q3, q4, q5⟩ := hob
          refine ⟨by rw [ep]; exact q1, q2, by rw [ep]; exact q3, by rw [ep]; exact q4, by rw [ep1]; exact q5⟩
        have oo : oB M2 36 (kK M 38).1 := by
          refine ⟨by rw [b2 36 (by decide)]; exact m1, by omega, by rw [q3]; omega, by rw [q4]; omega, fun k hk => ?_⟩
          rw [hw2 _ (by omega), hw2 _ (by omega)]
          obtain ⟨⟨_, _, e1, e2, e3, _⟩, _⟩ := kpk.2 k hk
          have e1 : 2 ≤ (kK M 38).2 (7 * k + 2) := e1
          have e2 : 1 ≤ (kK M 38).2 (7 * k + 3) := e2
          have e3 : (kK M 38).2 (7 * k + 2) + (kK M 38).2 (7 * k + 3) ≤ 48 := e3
          omega
        obtain ⟨M3, d1, d2, d3, d4, d5⟩ := c_planBlock (b := true) (p := 38) (o := 36) (a := a) (z := zB M) (t := tN M) (K := kK M 38) (by unfold BP; decide) ez (by unfold zB; omega) (by omega) (by rw [fr2 5 (by decide)]; exact h.ha) ha4 (by omega) rfl oi oo hw2 (by rw [fr2 8 (by decide)]; exact h.hN) (by rw [fr2 9 (by decide)]; exact h.hZ) (by rw [fr2 32 (by decide)]; exact h.hB) (by rw [fr2 9 (by decide)]; exact hsm) rfl
        rw [ef, fr2 32 (by decide), fr2 8 (by decide)] at d1 d5
        have fr3 : Fr (FO 36) M M3 := Fr_t fr2 d2 (by decide)
        have hn1 : M1 5 7 = (n : Int) := by rw [fr1 5 (by decide)]; exact h.hn
        have mid : ∀ q, irun none zp_22 122 [some (iP 0), some (iI (tN M)), some (iI (c : Int))] [iI (bz (fI M 38 ≠ -1 ∧ ∀ i, i < a → vr (M 32) (M 8) i ≤ 255))] (SH true) M3 0 0 q → irun none zp_22 64 [some (iP 0), some (iI (tN M)), some (iI (c : Int))] [] (SH true) M1 0 0 q := by
          intro q hq
          refine i_aload_n rfl rfl ?_
          refine i_getr (p2 := 36) rfl rfl rfl rfl (by decide) rfl ?_
          refine i_getf rfl rfl rfl rfl (by decide) ?_
          refine i_aload_n rfl rfl ?_
          refine i_getr rfl rfl rfl rfl (by decide) rfl ?_
          refine i_getf rfl rfl rfl rfl (by decide) ?_
          refine i_iadd rfl (by unfold iR; omega) ?_
          refine i_bipush (n := 10) rfl (by unfold iR; omega) (by decide) ?_
          refine i_icmp_le_t rfl (by first | omega | assumption) ?_
          refine i_aload_n rfl rfl ?_
          refine i_getr rfl rfl rfl rfl (by decide) rfl ?_
          refine i_getf rfl rfl rfl rfl (by decide) ?_
          refine i_if_le_f rfl (by first | omega | assumption) ?_
          refine i_aload_n rfl rfl ?_
          refine i_getr rfl rfl rfl rfl (by decide) rfl ?_
          refine i_aload_n rfl rfl ?_
          refine i_getr rfl rfl rfl rfl (by decide) rfl ?_
          refine i_getr rfl rfl rfl rfl (by decide) rfl ?_
          refine i_aload_n rfl rfl ?_
          refine i_getr rfl rfl rfl rfl (by decide) rfl ?_
          refine i_getf rfl rfl rfl rfl (by decide) ?_
          -- at 114
          rw [hn1]
          refine i_call (T := (106, zp_106)) rfl rfl (b1) rfl rfl rfl rfl rfl rfl rfl ?_
          try dsimp only
          refine i_aload_n rfl rfl ?_
          refine i_iload_n rfl rfl ?_
          -- at 119
          refine i_call (T := (23, zp_23)) rfl rfl (d1) rfl rfl rfl rfl rfl rfl rfl ?_
          try dsimp only
          exact hq
        by_cases good : fI M 38 ≠ -1 ∧ ∀ i, i < a → vr (M 32) (M 8) i ≤ 255
        · obtain ⟨g1, g2⟩ := good
          rw [bz_t ⟨g1, g2⟩] at mid
          obtain ⟨d6, d7, d8⟩ := d5 g1 g2
          obtain ⟨M', r1, r2⟩ := fin M3 (by rw [fr3 38 (by decide)]) (by rw [fr3 (38 + 1) (by decide)]) fr3 (by rw [d7]; show _ = (((kK M 38).1 + aN M : Nat) : Int); rw [ea]) (by rw [d4 2 (by decide), b2 36 (by decide)]; exact m2) (by rw [d4 3 (by decide)]; exact q3) (by rw [d4 4 (by decide)]; exact q4) (fun j hj => by
            have hj : j < 7 * ((kK M 38).1 + aN M) := hj
            rw [d8 j (by omega), fr2 9 (by decide), ← es]
            rfl) full g1 g2 (fun _ => by
            refine ⟨d6, by rw [d3 4 (by decide)]; exact ez, by rw [d2 30 (by decide)]; exact b3, by rw [d2 30 (by decide), h.hn]; exact b4, by rw [d2 30 (by decide)]; exact b5, fun k hk => by rw [d2 30 (by decide)]; exact b6 k hk⟩)
          refine ⟨M', pre _ (mid _ ?_), r2⟩
          refine i_if_ne_t rfl (by first | omega | assumption) ?_
          -- at 127
          exact r1
        · rw [bz_f good] at mid
          have nok : ¬ okC M 38 := fun q => good ⟨q.1.2.1, by have := q.1.2.2; rw [ea] at this; exact this⟩
          refine ⟨M3, pre _ (mid _ ?_), fr3, fun q => absurd q nok⟩
          rw [bz_f nok]
          refine i_if_ne_f rfl (by first | omega | assumption) ?_
          refine i_iconst (n := 0) rfl (by unfold iR; omega) ?_
          -- at 126
          exact i_zreturn rfl rfl (by first | omega | assumption)
    · refine ⟨M1, pre _ ?_, frO, fun q => absurd q (hno full)⟩
      have full2 : ¬ ((kK M 38).1 + aN M ≤ 10) := full
      rw [bz_f (hno full)]
      refine i_aload_n rfl rfl ?_
      refine i_getr (p2 := 36) rfl rfl rfl rfl (by decide) rfl ?_
      refine i_getf rfl rfl rfl rfl (by decide) ?_
      refine i_aload_n rfl rfl ?_
      refine i_getr rfl rfl rfl rfl (by decide) rfl ?_
      refine i_getf rfl rfl rfl rfl (by decide) ?_
      refine i_iadd rfl (by unfold iR; omega) ?_
      refine i_bipush (n := 10) rfl (by unfold iR; omega) (by decide) ?_
      refine i_icmp_le_f rfl (by first | omega | assumption) ?_
      refine i_iconst (n := 0) rfl (by unfold iR; omega) ?_
      -- at 85
      exact i_zreturn rfl rfl (by first | omega | assumption)
