theorem sm_tail {f : Nat → Int} {c d : Nat} (h : c ≤ d) (hf : ∀ k, c ≤ k → k < d → f k = 0) : sm f d = sm f c := by
  induction h with
  | refl => rfl
  | @step m h ih =>
    show sm f m + f m = _
    have := hf m h (by omega)
    rw [ih (fun k k1 k2 => hf k k1 (by omega)), this]
    omega
theorem Inv_CP {w : Int} {b : Bool} {M : iM} (h : Inv w b M) : ∃ c a n, CP M (pI b) c a n ∧ RT M M (pI b) c a n ∧ M 5 8 = sm (M 10) c := by
  obtain ⟨-, -, ⟨⟨n1, n2⟩, e1, e2, e3, e4, ⟨e5, e6⟩, ⟨e7, e8⟩, ⟨e9, e10⟩, e11⟩, ⟨⟨t1, t2⟩, t3⟩, -, ⟨⟨a1, a2⟩, ⟨a3, a4⟩, a5, a6⟩, ⟨⟨g1, g2⟩, g3⟩, -⟩ := h
  obtain ⟨c, ec⟩ := Int.eq_ofNat_of_zero_le n1
  obtain ⟨a, ea⟩ := Int.eq_ofNat_of_zero_le a2.1
  have hz : ∀ k, k < a → 0 ≤ M 9 k ∧ M 9 k ≤ 24 := fun k hk => (a5 k (by omega)).2.2
  have hs := smZ_b hz a (Nat.le_refl _)
  have ea2 : (M 5 6).toNat = a := by omega
  rw [ea2] at a4
  obtain ⟨n, en⟩ := Int.eq_ofNat_of_zero_le (show 0 ≤ M 5 7 by omega)
  have hgc : sm (M 10) 10 = sm (M 10) c := sm_tail (by omega) (fun k k1 k2 => (g3 k k2).2.2 (by omega))
  refine ⟨c, a, n, ⟨ec, by omega, fun k hk => e3 k (by omega), fun k hk => e4 k (by omega), fun k hk => e11 k (by omega), e6, e8, e10, fun k hk => (t3 k hk).2, t2, ea, by omega, fun k hk => (a5 k (by omega)).1.2, hz, en, by rw [← a4]; exact en, fun k hk => (g3 k hk).2.1, fun j hj => (a6 j (by omega)).2⟩, ⟨e1.trans ec, fun j hj => e2 j (by omega), e7, e9, e5, t1, a1.trans ea, a3.trans en, ?_, fun k hk => (t3 k hk).1, fun k hk => (a5 k (by omega)).1.1, fun k hk => (a5 k (by omega)).2.1, fun k hk => (a6 k (by omega)).1, fun k hk => (g3 k hk).1⟩, ?_⟩
  · rw [g1, g2, hgc]
  · rw [g2, hgc]
theorem RT_e {M0 M M' : iM} {p c a n : Nat} (r : RT M0 M p c a n) (e : ∀ x, x ∈ [40, 42, 44, 46, 47, 48, 49] → M' x = M x) : RT M0 M' p c a n := by
  refine ⟨?_, ?_, ?_, ?_, ?_, ?_, ?_, ?_, ?_, ?_, ?_, ?_, ?_, ?_⟩
  · rw [e 42 (by decide)]; exact r.r0
  · rw [e 42 (by decide)]; exact r.rw
  · rw [e 40 (by decide)]; exact r.r6
  · rw [e 40 (by decide)]; exact r.r7
  · rw [e 40 (by decide)]; exact r.r8
  · rw [e 40 (by decide)]; exact r.r9
  · rw [e 40 (by decide)]; exact r.r13
  · rw [e 40 (by decide)]; exact r.r14
  · rw [e 40 (by decide)]; exact r.r15
  · rw [e 44 (by decide)]; exact r.r44
  · rw [e 46 (by decide)]; exact r.r46
  · rw [e 47 (by decide)]; exact r.r47
  · rw [e 48 (by decide)]; exact r.r48
  · rw [e 49 (by decide)]; exact r.r49
theorem Inv_k3 {w v : Int} {b : Bool} {M M2 : iM} (h : Inv w b M) (i1 : I1 M2) (i2 : I2 v M2) (hc : ∀ x, x ∈ [5, 6, 7, 8, 9, 10, 32, 35, 42, 44, 45, 46, 47, 48, 49, 62] → M2 x = M x) (hp : M2 (pI b) = M (pI b)) (hp1 : M2 (pI b + 1) = M (pI b + 1)) (h07 : M2 0 7 = M 0 7) (h08 : M2 0 8 = M 0 8) (h40 : ∀ k, k ∉ [1, 2, 3, 20, 21, 25, 26] → M2 40 k = M 40 k) : Inv v b M2 := by
  obtain ⟨-, -, i3, i4, i5, i6, i7, i8⟩ := h
  refine ⟨i1, i2, ?_, ?_, ?_, ?_, ?_, ?_⟩
  · unfold I3
    rw [hc 42 (by decide), hp, hp1, hc 32 (by decide), h40 8 (by decide), h40 6 (by decide), h40 7 (by decide)]
    exact i3
  · unfold I4
    rw [h40 9 (by decide), h08, hc 44 (by decide), hc 32 (by decide)]
    exact i4
  · unfold I5
    rw [h40 12 (by decide), hc 5 (by decide), hc 45 (by decide), hc 6 (by decide)]
    exact i5
  · unfold I6
    rw [h40 13 (by decide), h40 14 (by decide), hc 5 (by decide), hc 9 (by decide), hc 46 (by decide), hc 8 (by decide), hc 47 (by decide), hc 48 (by decide), hc 7 (by decide)]
    exact i6
  · unfold I7
    rw [h40 15 (by decide), hc 5 (by decide), hc 10 (by decide), hc 49 (by decide), hp]
    exact i7
  · unfold I8
    rw [h40 41 (by decide), h07, hc 62 (by decide), hc 35 (by decide)]
    exact i8
theorem En_b8 {W : Nat → Int} {c : Nat} (h : ∀ k, k < c → En (fun u => W (7 * k + u))) : by8 W (7 * c) := by
  intro j hj
  obtain ⟨⟨a1, a2⟩, ⟨a3, a4⟩, a5, a6, a7, ⟨a8, a9⟩, ⟨a10, a11⟩, a12, a13⟩ := h (j / 7) (by omega)
  have e : j = 7 * (j / 7) + j % 7 := by omega
  generalize j / 7 = q at *
  rcases (show j % 7 = 0 ∨ j % 7 = 1 ∨ j % 7 = 2 ∨ j % 7 = 3 ∨ j % 7 = 4 ∨ j % 7 = 5 ∨ j % 7 = 6 by omega) with z | z | z | z | z | z | z <;> rw [z] at e <;> rw [e]
  · exact ⟨a1, Int.lt_of_le_of_lt a2 (by decide)⟩
  · exact ⟨Int.le_trans (by decide) a3, Int.lt_of_le_of_lt a4 (by decide)⟩
  · have a5 : 2 ≤ W (7 * q + 2) := a5
    have a6 : 1 ≤ W (7 * q + 3) := a6
    have a7 : W (7 * q + 2) + W (7 * q + 3) ≤ 48 := a7
    omega
  · have a5 : 2 ≤ W (7 * q + 2) := a5
    have a6 : 1 ≤ W (7 * q + 3) := a6
    have a7 : W (7 * q + 2) + W (7 * q + 3) ≤ 48 := a7
    omega
  · exact ⟨a8, Int.lt_of_le_of_lt a9 (by decide)⟩
  · exact ⟨a10, Int.lt_of_le_of_lt a11 (by decide)⟩
  · exact ⟨a12, Int.lt_of_le_of_lt a13 (by decide)⟩
theorem wrm_k {D1 D2 D3 : Nat → Nat → Int} {f1 f2 f3 n1 n2 : Nat} {f Q : Nat → Int} {k : Nat} (k1 : k ≠ 1) (k2 : k ≠ 2) (k3 : k ≠ 3) : (wrm D1 D2 D3 f1 f2 f3 n1 n2 f Q).2.2 k = Q k := by
  have key : ∀ (D : Nat → Nat → Int) (g : Nat) (f Q : Nat → Int) (n : Nat), (srm D g f Q n).2.2 k = Q k := by
    intro D g f Q n
    induction n with
    | zero => rfl
    | succ n ih =>
      unfold srm
      split
      · exact (st2m_k k1 k2 k3).trans ih
      · exact ih
  unfold wrm
  split
  · split
    · rw [key, key, key]
    · rw [key, key]
  · exact key _ _ _ _ _
theorem Rl_c {O Q Q' : Nat → Int} (h : Rl O Q) (h1 : Q' 1 = Q 1) (h2 : Q' 2 = Q 2) (h3 : Q' 3 = Q 3) : Rl O Q' := by
  unfold Rl at *
  rw [h1, h2, h3]
  exact h
theorem qI_b {M : iM} {p c a n : Nat} (h : CP M p c a n) (h10 : pN M p ≤ 10) (h1 : qI M p ≠ -1) : 0 ≤ qI M p ∧ qI M p + (mE M p : Int) ≤ 48 ∧ mE M p ≤ 7 := by
  by_cases p0 : pN M p = 0
  · have me : mE M p = 0 := by unfold mE; rw [if_pos p0]
    have q0 : qI M p = 0 := by unfold qI; rw [if_pos p0]
    omega
  · have me : mE M p = (1 + 7 * pN M p + 10) / 11 := by unfold mE; rw [if_neg p0]
    have hb := fpl_b (U := fun s => oM M p (M p 1).toNat s ∨ (fI M p ≤ s ∧ s < fI M p + (sE M : Int))) (n := (mE M p : Int)) (by omega) 46 2 0 (by omega) (by omega)
    unfold qI at h1 ⊢
    rw [if_neg p0] at h1 ⊢
    rcases hb with z | z
    · exact absurd z h1
    · omega
theorem zB_b {M : iM} {p c a n : Nat} (h : CP M p c a n) : 3 ≤ zB M ∧ zB M ≤ 99 ∧ (M 5 7).toNat = n := by
  have n96 := CP_n h
  have en : (M 5 7).toNat = n := by rw [h.hn]; rfl
  refine ⟨by unfold zB; omega, ?_, en⟩
  unfold zB
  rw [en]
  have := (chs_b (S := M 7) n96 3).1
  have this : (chs (M 7) n 4).2 ≤ n := this
  omega
theorem fI_0 {M : iM} {p c a n : Nat} (h : CP M p c a n) (h1 : fI M p ≠ -1) : 0 ≤ fI M p ∧ fI M p + (sE M : Int) ≤ 48 ∧ sE M ≤ 9 := by
  have ea : aN M = a := by unfold aN; rw [h.ha]; rfl
  have zb := zB_b h
  by_cases a0 : 0 < a
  · have := fI_b h a0 h1
    have es : sE M = (zB M + 10) / 11 := by unfold sE; rw [if_neg (by omega)]
    omega
  · have : fI M p = 0 := by unfold fI; rw [if_pos (by omega)]
    have : sE M = 0 := by unfold sE; rw [if_pos (by omega)]
    omega
/-- the block's bytes -/
theorem blk_b {M : iM} {p c a n : Nat} (h : CP M p c a n) : ∀ k, 0 ≤ pk (eN (M 7) (M 5 7).toNat (chs (M 7) (M 5 7).toNat 4).1) k ∧ pk (eN (M 7) (M 5 7).toNat (chs (M 7) (M 5 7).toNat 4).1) k < 256 ∧ ((chs (M 7) (M 5 7).toNat 4).2 ≤ k → pk (eN (M 7) (M 5 7).toNat (chs (M 7) (M 5 7).toNat 4).1) k = 0) := by
  have n96 := CP_n h
  rw [(zB_b h).2.2]
  obtain ⟨c1, c2, c3, c4⟩ := chs_b (S := M 7) n96 3
  have c2 : (chs (M 7) n 4).1 ≤ 3 := c2
  have c3 : (chs (M 7) n 4).2 = bc (M 7) n (chs (M 7) n 4).1 := c3
  have c4 : ¬ ((chs (M 7) n 4).1 = 3 ∧ n = 0) := c4
  have hB := eN_B (S := M 7) h.hY n96 (c := (chs (M 7) n 4).1) (by omega) c4
  intro k
  have := pk_b hB k
  refine ⟨this.1, this.2, fun hk => pk_out ?_⟩
  unfold bc at c3
  omega
set_option maxRecDepth 100000 in
theorem d_done {b : Bool} {M M1 X : iM} {p o c a n f1 f2 x x0 : Nat} {V : Int × (Nat → Int) × (Nat → Int)} (h : CP M p c a n) (pd : Pd M M1 p o) (ok : okC M p) (r : RT M X p c a n) (hrl : Rl (M 1) (X 40)) (h41 : X 41 = M 2) (hf : by8 (M 2) 720) (e1 : (f1 : Int) = fI M p) (e2 : (f2 : Int) = qI M p) (e0 : (x0 : Int) = M p 2) (ex : x = (x0 + 1) % 256)
    (hV : V = wr (Dz (M1 30) (zB M)) (Dz (iD (pN M p : Int) (M1 (o + 1))) (1 + 7 * pN M p)) (Dz (hD x (M1 o 3) (M1 o 4)) 5) f1 f2 (x % 2) (sE M) (mE M p) (M 2) (M 1)) :
    ∃ M7, irun none zp_152 24 [some (iP 40), none, none, none, none, none, none, none] [] (SH b) X 0 0 (some (if V.1 = 1 then 2 * ((sE M : Int) + (mE M p : Int) + 1) else -9), SH b, M7) ∧ Fr [40, 41, 42, 43, 44, 49, 50, 51, 53, 54, 55, 56, 57, 58, 59] X M7 ∧ M7 41 = V.2.1 ∧ Rl V.2.2 (M7 40) ∧
      (V.1 = 1 → (∀ k, k ∉ [1, 2, 3, 6, 7, 8, 9, 13, 14, 15, 20, 21, 25, 26] → M7 40 k = X 40 k) ∧ M7 40 6 = qI M p ∧ M7 40 7 = (mE M p : Int) ∧ M7 40 8 = (x : Int) ∧ M7 40 9 = tN M ∧ M7 40 13 = 0 ∧ M7 40 14 = 0 ∧ M7 40 15 = 0 ∧ M7 42 0 = (pN M p : Int) ∧ (∀ j, j < 7 * pN M p → M7 42 (1 + j) = (pL M p a).2 j) ∧ (∀ k, k < 8 → M7 44 k = bsf (X 44) (pL M p a).2 (pN M p) k) ∧ M7 49 = zz (X 49)) ∧
      (V.1 ≠ 1 → (∀ k, k ∉ [1, 2, 3, 20, 21, 25, 26] → M7 40 k = X 40 k) ∧ M7 42 = X 42 ∧ M7 44 = X 44 ∧ M7 49 = X 49) := by
  have ea : aN M = a := by unfold aN; rw [h.ha]; rfl
  have ePn : (pL M p a).1 = pN M p := by unfold pL pN; rw [plN_n, ea]
  obtain ⟨⟨h10, hf1, hv⟩, hq1⟩ := ok
  rw [ea] at hv
  have hPK := pL_PK h hf1 hv a (Nat.le_refl _)
  rw [← ea] at hPK
  have fb := fI_0 h hf1
  have qb := qI_b h h10 hq1
  have zb := zB_b h
  have hb := blk_b h
  have n96 := CP_n h
  obtain ⟨M6, z1, z2, d1, d2, d3, d4⟩ := (d_plan (b := b) h r).1 ⟨⟨h10, hf1, by rw [ea]; exact hv⟩, hq1⟩
  have qw := d4.hw
  have p50 : 0 < sE M → 0 < aN M := by
    intro z
    unfold sE at z
    split at z <;> omega
  have hEn : ∀ k, k < pN M p → En (fun u => (pL M p (aN M)).2 (7 * k + u)) := fun k hk => (hPK.2 k (by rw [ea, ePn]; exact hk)).1
  have h8 := En_b8 hEn
  have sz := (chs_b (S := M 7) n96 3)
  have d50 : 0 < sE M → by8 (M6 50) 128 := by
    intro z j hj
    obtain ⟨q0, q1, q2, q3⟩ := d4.hb (p50 z)
    by_cases j0 : j = 0
    · rw [j0, q0, zb.2.2]
      have := sz.2.1
      have this : (chs (M 7) n 4).1 ≤ 3 := this
      omega
    · by_cases j1 : j = 1
      · rw [j1, q1, h.hn]; omega
      · by_cases j2 : j = 2
        · rw [j2, q2]
          have : zB M = (chs (M 7) (M 5 7).toNat 4).2 + 3 := rfl
          omega
        · have := q3 (j - 3) (by omega)
          rw [show 3 + (j - 3) = j by omega] at this
          rw [this]
          exact ⟨(hb _).1, (hb _).2.1⟩
  have f6 : ∀ x, x ∈ [40, 41, 42, 43, 44, 49, 50, 51, 53, 54, 55, 56, 57, 58, 59] → True := fun _ _ => trivial
  have rl6 : Rl (M 1) (M6 40) := Rl_c hrl (d3 1 (by decide) (by decide) (by decide) (by decide)) (d3 2 (by decide) (by decide) (by decide) (by decide)) (d3 3 (by decide) (by decide) (by decide) (by decide))
  have m41 : M6 41 = M 2 := by rw [d2 41 (by decide)]; exact h41
  have x8 : M6 40 8 = (x0 : Int) := by rw [d3 8 (by decide) (by decide) (by decide) (by decide), r.r8, e0]
  have hm2 := h.h2
  obtain ⟨M7, g1, g2, g3, g4, g5⟩ := d_put (b := b) (M := M6) (c := pN M p) (f1 := f1) (n1 := sE M) (f2 := f2) (n2 := mE M p) (x := x0) (y := x) (t := tN M) (W := (pL M p (aN M)).2) d4.h0 h10 qw (fun k hk => (hEn k hk).1) (fun j hj => by
    by_cases j0 : j = 0
    · rw [j0, d4.h0]; omega
    · have := qw (j - 1) (by omega)
      rw [show 1 + (j - 1) = j by omega] at this
      rw [this]
      exact h8 _ (by omega)) x8 (by omega) ex (by rw [m41]; exact hf) (Rl_q rl6) d50 (by omega) (by omega) (by omega) (by omega) rfl
  generalize eU : wrm (fun i k => M6 50 (11 * i + k)) (fun i k => F2 M6 (pN M p) (mE M p : Int) (11 * i + k)) (fun i k => F3 (x : Int) (f2 : Int) (mE M p : Int) (11 * i + k)) f1 f2 (x % 2) (sE M) (mE M p) (M6 41) (M6 40) = U at g1 g3 g4 g5
  have rel := wr_rel (D1 := Dz (M1 30) (zB M)) (D2 := Dz (iD (pN M p : Int) (M1 (o + 1))) (1 + 7 * pN M p)) (D3 := Dz (hD x (M1 o 3) (M1 o 4)) 5) (E1 := fun i k => M6 50 (11 * i + k)) (E2 := fun i k => F2 M6 (pN M p) (mE M p : Int) (11 * i + k)) (E3 := fun i k => F3 (x : Int) (f2 : Int) (mE M p : Int) (11 * i + k)) (f1 := f1) (f2 := f2) (f3 := x % 2) (n1 := sE M) (n2 := mE M p) (f := M 2) rl6 (fun i k hi hk => by
    have a0 := p50 (by omega)
    obtain ⟨_, _, w0, w1, w2, w3⟩ := pd.hb a0
    obtain ⟨q0, q1, q2, q3⟩ := d4.hb a0
    show Dz (M1 30) (zB M) i k = M6 50 (11 * i + k)
    unfold Dz
    have ez : zB M = (chs (M 7) (M 5 7).toNat 4).2 + 3 := rfl
    rw [show i * 11 + k = 11 * i + k by omega]
    have hlt : 11 * i + k < 128 := by omega
    generalize 11 * i + k = j at *
    by_cases e : j < zB M
    · rw [if_pos e]
      by_cases j0 : j = 0
      · rw [j0, w0, q0]
      · by_cases j1 : j = 1
        · rw [j1, w1, q1]
        · by_cases j2 : j = 2
          · rw [j2, w2, q2]
          · have t1 := w3 (j - 3) (by omega)
            have t2 := q3 (j - 3) (by omega)
            rw [show 3 + (j - 3) = j by omega] at t1 t2
            rw [t1, t2]
    · rw [if_neg e]
      have t2 := q3 (j - 3) (by omega)
      rw [show 3 + (j - 3) = j by omega] at t2
      rw [t2, (hb (j - 3)).2.2 (by omega)]) (fun i k hi hk => by
    show Dz (iD (pN M p : Int) (M1 (o + 1))) (1 + 7 * pN M p) i k = F2 M6 (pN M p) (mE M p : Int) (11 * i + k)
    unfold Dz F2
    rw [show i * 11 + k = 11 * i + k by omega]
    generalize 11 * i + k = j at *
    by_cases e : j < 1 + 7 * pN M p
    · rw [if_pos e, if_pos ⟨e, by omega⟩]
      unfold iD
      by_cases j0 : j = 0
      · rw [if_pos j0, j0, d4.h0]
      · rw [if_neg j0, pd.hw (j - 1) (by omega)]
        have := qw (j - 1) (by omega)
        rw [show 1 + (j - 1) = j by omega] at this
        exact this.symm
    · rw [if_neg e, if_neg (fun z => e z.1)]) (fun i k hi hk => by
    obtain rfl : i = 0 := by omega
    show Dz (hD x (M1 o 3) (M1 o 4)) 5 0 k = F3 (x : Int) (f2 : Int) (mE M p : Int) (11 * 0 + k)
    rw [pd.h3, pd.h4, ← e2]
    unfold Dz
    rw [show 0 * 11 + k = k by omega]
    try rw [show 11 * 0 + k = k by omega]
    unfold hD F3
    rcases (show k = 0 ∨ k = 1 ∨ k = 2 ∨ k = 3 ∨ k = 4 ∨ 5 ≤ k by omega) with z | z | z | z | z | z
    · subst z; rfl
    · subst z; rfl
    · subst z; rfl
    · subst z; rfl
    · subst z; rfl
    · rw [if_neg (by omega), if_neg (by omega), if_neg (by omega), if_neg (by omega), if_neg (by omega), if_neg (by omega)])
  rw [← m41, eU, m41, ← hV] at rel
  obtain ⟨v1, v2, v3⟩ := rel
  rw [← v1] at g1 g4 g5
  have U1 : ∀ k, k ≠ 1 → k ≠ 2 → k ≠ 3 → U.2.2 k = M6 40 k := fun k k1 k2 k3 => by rw [← eU]; exact wrm_k k1 k2 k3
  rw [e1, e2] at g1
  have run : irun none zp_152 24 [some (iP 40), none, none, none, none, none, none, none] [] (SH b) X 0 0 (some (if V.1 = 1 then 2 * ((sE M : Int) + (mE M p : Int) + 1) else -9), SH b, M7) := by
    refine d1 _ ?_
    by_cases c1 : V.1 = 1
    · rw [if_pos c1] at g1 ⊢
      refine i_aload_n rfl rfl ?_
      refine i_iload_n rfl rfl ?_
      refine i_iload_n rfl rfl ?_
      refine i_iload rfl rfl ?_
      refine i_iload rfl rfl ?_
      refine i_iload_n rfl rfl ?_
      -- at 435
      refine i_call (T := (153, zp_153)) rfl rfl (g1) rfl rfl rfl rfl rfl rfl rfl ?_
      try dsimp only
      show irun none zp_152 438 _ (iI ((1 : Int)) :: _) _ _ 0 0 _
      refine i_if_eq_f rfl (by first | omega | assumption) ?_
      refine i_iconst (n := 2) rfl (by unfold iR; omega) ?_
      refine i_iload_n rfl rfl ?_
      refine i_iload rfl rfl ?_
      refine i_iadd rfl (by unfold iR; omega) ?_
      refine i_iconst (n := 1) rfl (by unfold iR; omega) ?_
      refine i_iadd rfl (by unfold iR; omega) ?_
      refine i_imul rfl (by unfold iR; omega) ?_
      refine i_goto rfl ?_
      -- at 454
      exact i_ireturn rfl rfl
    · rw [if_neg c1] at g1 ⊢
      refine i_aload_n rfl rfl ?_
      refine i_iload_n rfl rfl ?_
      refine i_iload_n rfl rfl ?_
      refine i_iload rfl rfl ?_
      refine i_iload rfl rfl ?_
      refine i_iload_n rfl rfl ?_
      -- at 435
      refine i_call (T := (153, zp_153)) rfl rfl (g1) rfl rfl rfl rfl rfl rfl rfl ?_
      try dsimp only
      show irun none zp_152 438 _ (iI ((0 : Int)) :: _) _ _ 0 0 _
      refine i_if_eq_t rfl (by first | omega | assumption) ?_
      refine i_bipush (n := -9) rfl (by unfold iR; omega) (by decide) ?_
      -- at 454
      exact i_ireturn rfl rfl
  refine ⟨M7, run, Fr_t (Fr_t (Fr_r _ _) d2 (by decide)) g2 (by decide), by rw [g3, v2], ?_, fun c1 => ?_, fun c1 => ?_⟩
  · by_cases c1 : V.1 = 1
    · obtain ⟨k1, _⟩ := g4 c1
      exact Rl_c v3 (k1 1 (by decide) (by decide) (by decide) (by decide) (by decide) (by decide) (by decide)) (k1 2 (by decide) (by decide) (by decide) (by decide) (by decide) (by decide) (by decide)) (k1 3 (by decide) (by decide) (by decide) (by decide) (by decide) (by decide) (by decide))
    · rw [(g5 c1).1]
      exact v3
  · obtain ⟨k1, k2, k3, k4, k5, k6, k7, k8, k9, k10, k11⟩ := g4 c1
    refine ⟨fun k hk => ?_, by rw [k2, e2], k3, k4, k5, k6, k7, k8, by rw [k9 0 (by omega)]; exact d4.h0, fun j hj => ?_, fun k hk => ?_, ?_⟩
    · simp only [List.mem_cons, List.not_mem_nil, not_or, or_false] at hk
      obtain ⟨a1, a2, a3, a4, a5, a6, a7, a8, a9, a10, a11, a12, a13, a14⟩ := hk
      rw [k1 k a4 a5 a6 a7 a8 a9 a10, U1 k a1 a2 a3, d3 k a11 a12 a13 a14]
    · rw [k9 (1 + j) (by omega), qw j hj, ea]
    · rw [k10 k hk, d2 44 (by decide), ea]
    · rw [k11, d2 49 (by decide)]
  · obtain ⟨k1, k2, k3, k4⟩ := g5 c1
    refine ⟨fun k hk => ?_, by rw [k2, d2 42 (by decide)], by rw [k3, d2 44 (by decide)], by rw [k4, d2 49 (by decide)]⟩
    simp only [List.mem_cons, List.not_mem_nil, not_or, or_false] at hk
    obtain ⟨a1, a2, a3, a11, a12, a13, a14⟩ := hk
    rw [k1, U1 k a1 a2 a3, d3 k a11 a12 a13 a14]
