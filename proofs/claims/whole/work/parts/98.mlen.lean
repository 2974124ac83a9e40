/-- the reference's trees: named by any of their symbols, the least told beside -/
def lr (w q : Nat → Int) (e : Int) : Nat → Int
  | 0 => -1
  | k + 1 => if (k : Int) ≠ e ∧ 0 < w k ∧ (lr w q e k < 0 ∨ w k < w (lr w q e k).toNat ∨ (w k = w (lr w q e k).toNat ∧ q k < q (lr w q e k).toNat)) then (k : Int) else lr w q e k
theorem lr_b {w q : Nat → Int} {e : Int} : ∀ k, -1 ≤ lr w q e k ∧ lr w q e k < k := by
  intro k
  induction k with
  | zero => exact ⟨Int.le_refl _, by show (-1 : Int) < 0; decide⟩
  | succ k ih =>
    unfold lr
    split <;> omega
theorem lr_spec {w q : Nat → Int} {e : Int} : ∀ k : Nat, (lr w q e k = -1 ∧ ∀ i : Nat, i < k → ¬ (0 < w i ∧ (i : Int) ≠ e)) ∨ (∃ x : Nat, lr w q e k = (x : Int) ∧ x < k ∧ 0 < w x ∧ (x : Int) ≠ e ∧ ∀ i : Nat, i < k → 0 < w i → (i : Int) ≠ e → (w x < w i ∨ (w x = w i ∧ q x ≤ q i))) := by
  intro k
  induction k with
  | zero => exact Or.inl ⟨rfl, fun i hi => by omega⟩
  | succ k ih =>
    have lb := lr_b (w := w) (q := q) (e := e) k
    by_cases hc : (k : Int) ≠ e ∧ 0 < w k ∧ (lr w q e k < 0 ∨ w k < w (lr w q e k).toNat ∨ (w k = w (lr w q e k).toNat ∧ q k < q (lr w q e k).toNat))
    · have er : lr w q e (k + 1) = (k : Int) := by
        show (if _ then _ else _) = _
        rw [if_pos hc]
      refine Or.inr ⟨k, er, by omega, hc.2.1, hc.1, fun i hi h1 h2 => ?_⟩
      by_cases ei : i = k
      · rw [ei]; exact Or.inr ⟨rfl, Int.le_refl _⟩
      · rcases ih with ⟨a1, a2⟩ | ⟨x, a1, a2, a3, a4, a5⟩
        · exact absurd ⟨h1, h2⟩ (a2 i (by omega))
        · have h5 := a5 i (by omega) h1 h2
          rw [a1, show (x : Int).toNat = x by omega] at hc
          have h6 := hc.2.2
          omega
    · have er : lr w q e (k + 1) = lr w q e k := by
        show (if _ then _ else _) = _
        rw [if_neg hc]
      rw [er]
      rcases ih with ⟨a1, a2⟩ | ⟨x, a1, a2, a3, a4, a5⟩
      · refine Or.inl ⟨a1, fun i hi h => ?_⟩
        by_cases ei : i = k
        · rw [ei] at h
          exact hc ⟨h.2, h.1, Or.inl (by omega)⟩
        · exact a2 i (by omega) h
      · refine Or.inr ⟨x, a1, by omega, a3, a4, fun i hi h1 h2 => ?_⟩
        by_cases ei : i = k
        · rw [ei] at h1 h2 ⊢
          rw [a1, show (x : Int).toNat = x by omega] at hc
          by_cases c1 : w k < w x
          · exact absurd ⟨h2, h1, Or.inr (Or.inl c1)⟩ hc
          · by_cases c2 : w k = w x ∧ q k < q x
            · exact absurd ⟨h2, h1, Or.inr (Or.inr c2)⟩ hc
            · omega
        · exact a5 i (by omega) h1 h2
def rT (t : Nat → Int) (x y : Nat) (k : Nat) : Int := if t k = (x : Int) ∨ t k = (y : Int) then (x : Int) else t k
def rL (t l : Nat → Int) (x y : Nat) (k : Nat) : Int := if t k = (x : Int) ∨ t k = (y : Int) then l k + 1 else l k
def rW (w : Nat → Int) (x y : Nat) : Nat → Int := va_up (va_up w x (w x + w y)) y 0
def rQ (q : Nat → Int) (x y : Nat) : Nat → Int := va_up q x (if q x < q y then q x else q y)
def RS (c : Nat) (T L W t l w q : Nat → Int) : Prop :=
  (∀ k, k < c → l k = L k) ∧ (∀ k, k < c → ∃ r : Nat, r < c ∧ t k = (r : Int) ∧ 0 < w r ∧ q r = T k) ∧
  (∀ r, r < c → 0 < w r → t r = (r : Int) ∧ ∃ z : Nat, z < c ∧ q r = (z : Int) ∧ T z = (z : Int) ∧ W z = w r ∧ t z = (r : Int))
theorem RS_find {c : Nat} {s : (Nat → Int) × (Nat → Int) × (Nat → Int)} {t l w q : Nat → Int} {x y : Nat} (h : RS c s.1 s.2.1 s.2.2 t l w q) (hr : 2 ≤ rc s.1 c) (ex : hP1 c s = (x : Int)) (ey : hP2 c s = (y : Int)) : ∃ a b' : Nat, lr w q (-1) c = (a : Int) ∧ lr w q (a : Int) c = (b' : Int) ∧ a < c ∧ b' < c ∧ a ≠ b' ∧ 0 < w a ∧ 0 < w b' ∧ q a = (x : Int) ∧ q b' = (y : Int) := by
  obtain ⟨h1, h2, h3⟩ := h
  obtain ⟨x', y', ex', ey', hx, hy, hxy, tx, ty, m1, m2⟩ := h_two hr
  obtain rfl : x = x' := by omega
  obtain rfl : y = y' := by omega
  obtain ⟨rx, rx1, rx2, rx3, rx4⟩ := h2 x hx
  obtain ⟨ry, ry1, ry2, ry3, ry4⟩ := h2 y hy
  rw [tx] at rx4
  rw [ty] at ry4
  obtain ⟨_, zx, _, zx2, _, zx4, _⟩ := h3 rx rx1 rx3
  obtain ⟨_, zy, _, zy2, _, zy4, _⟩ := h3 ry ry1 ry3
  obtain rfl : zx = x := by omega
  obtain rfl : zy = y := by omega
  rcases lr_spec (w := w) (q := q) (e := -1) c with ⟨a1, a2⟩ | ⟨a, a1, a2, a3, a4, a5⟩
  · exact absurd ⟨rx3, by omega⟩ (a2 rx rx1)
  · obtain ⟨ta, za, za1, za2, za3, za4, za5⟩ := h3 a a2 a3
    have k1 := a5 rx rx1 rx3 (by omega)
    have k2 := m1 za za1 za3
    have qa : za = zx := by omega
    subst qa
    have e1 : rx = a := by omega
    subst e1
    rcases lr_spec (w := w) (q := q) (e := (rx : Int)) c with ⟨b1, b2⟩ | ⟨b', b1, b2, b3, b4, b5⟩
    · exact absurd ⟨ry3, by intro e; have : ry = rx := by omega
                            subst this; omega⟩ (b2 ry ry1)
    · obtain ⟨tb, zb, zb1, zb2, zb3, zb4, zb5⟩ := h3 b' b2 b3
      have k3 := b5 ry ry1 ry3 (by intro e; have : ry = rx := by omega
                                   subst this; omega)
      have nzb : zb ≠ za := by
        intro e
        subst e
        omega
      have k4 := m2 zb zb1 zb3 nzb
      have qb : zb = zy := by omega
      subst qb
      exact ⟨rx, b', a1, b1, rx1, b2, by omega, rx3, b3, za2, zb2⟩
theorem RS_step {c : Nat} {T L W t l w q : Nat → Int} {a b' x y p g : Nat} (h : RS c T L W t l w q) (ha : a < c) (hb : b' < c) (hab : a ≠ b') (wa : 0 < w a) (wb : 0 < w b') (qa : q a = (x : Int)) (qb : q b' = (y : Int)) (hx : x < c) (hy : y < c) (tx : T x = (x : Int)) (ty : T y = (y : Int)) (hpg : (p = x ∧ g = y ∧ x < y) ∨ (p = y ∧ g = x ∧ y < x)) : RS c (jT c T p g) (jL c T L p g) (jW W p g) (rT t a b') (rL t l a b') (rW w a b') (rQ q a b') := by
  obtain ⟨h1, h2, h3⟩ := h
  obtain ⟨ta, za, za1, za2, za3, za4, za5⟩ := h3 a ha wa
  obtain ⟨tb, zb, zb1, zb2, zb3, zb4, zb5⟩ := h3 b' hb wb
  obtain rfl : za = x := by omega
  obtain rfl : zb = y := by omega
  -- merged in both alike
  have mm : ∀ k, k < c → ((t k = (a : Int) ∨ t k = (b' : Int)) ↔ (T k = (p : Int) ∨ T k = (g : Int))) := by
    intro k hk
    obtain ⟨r, r1, r2, r3, r4⟩ := h2 k hk
    obtain ⟨_, z, z1, z2, z3, z4, z5⟩ := h3 r r1 r3
    constructor
    · rintro (e | e)
      · have : r = a := by omega
        subst this
        omega
      · have : r = b' := by omega
        subst this
        omega
    · intro e
      have hz : T k = (z : Int) := by omega
      have : z = za ∨ z = zb := by omega
      rcases this with e1 | e1
      · subst e1; left; omega
      · subst e1; right; omega
  have wa' : rW w a b' a = w a + w b' := by
    unfold rW
    rw [up_n hab, up_s]
  have wb' : rW w a b' b' = 0 := by
    unfold rW
    rw [up_s]
  have wo : ∀ r, r ≠ a → r ≠ b' → rW w a b' r = w r := by
    intro r r1 r2
    unfold rW
    rw [up_n r2, up_n r1]
  have qa' : rQ q a b' a = (p : Int) := by
    unfold rQ
    rw [up_s]
    split <;> omega
  have qo : ∀ r, r ≠ a → rQ q a b' r = q r := by
    intro r r1
    unfold rQ
    rw [up_n r1]
  refine ⟨fun k hk => ?_, fun k hk => ?_, fun r hr w0 => ?_⟩
  · unfold rL
    by_cases e : t k = (a : Int) ∨ t k = (b' : Int)
    · rw [if_pos e, jL_m hk ((mm k hk).1 e), h1 k hk]
    · rw [if_neg e, jL_o (fun z => e ((mm k hk).2 z)), h1 k hk]
  · by_cases e : t k = (a : Int) ∨ t k = (b' : Int)
    · refine ⟨a, ha, ?_, ?_, ?_⟩
      · unfold rT
        rw [if_pos e]
      · rw [wa']; omega
      · rw [qa', jT_m hk ((mm k hk).1 e)]
    · obtain ⟨r, r1, r2, r3, r4⟩ := h2 k hk
      refine ⟨r, r1, ?_, ?_, ?_⟩
      · unfold rT
        rw [if_neg e]
        exact r2
      · rw [wo r (fun z => e (Or.inl (by omega))) (fun z => e (Or.inr (by omega)))]
        exact r3
      · rw [qo r (fun z => e (Or.inl (by omega))), jT_o (fun z => e ((mm k hk).2 z))]
        exact r4
  · by_cases e : r = b'
    · rw [e, wb'] at w0
      omega
    · by_cases e2 : r = a
      · subst e2
        have hp : p < c := by omega
        have mp : t p = (r : Int) ∨ t p = (b' : Int) := by
          rcases hpg with ⟨e3, _⟩ | ⟨e3, _⟩
          · left; rw [e3]; exact za5
          · right; rw [e3]; exact zb5
        refine ⟨?_, p, hp, qa', ?_, ?_, ?_⟩
        · unfold rT
          rw [if_pos (Or.inl ta)]
        · exact jT_m hp ((mm p hp).1 mp)
        · rw [wa']
          show va_up W (p : Int).toNat (W (p : Int).toNat + W (g : Int).toNat) p = _
          rw [show (p : Int).toNat = p by omega, show (g : Int).toNat = g by omega, up_s]
          rcases hpg with ⟨e3, e4, _⟩ | ⟨e3, e4, _⟩
          · rw [e3, e4]; omega
          · rw [e3, e4]; omega
        · unfold rT
          rw [if_pos mp]
      · rw [wo r e2 e] at w0
        obtain ⟨tr, z, z1, z2, z3, z4, z5⟩ := h3 r hr w0
        have nz : ¬ (t z = (a : Int) ∨ t z = (b' : Int)) := by
          rintro (e3 | e3)
          · omega
          · omega
        refine ⟨?_, z, z1, ?_, ?_, ?_, ?_⟩
        · unfold rT
          rw [if_neg (fun e3 => by omega)]
          exact tr
        · rw [qo r e2]; exact z2
        · rw [jT_o (fun e3 => nz ((mm z z1).2 e3))]
          exact z3
        · rw [wo r e2 e]
          show va_up W (p : Int).toNat _ z = _
          rw [up_n (show z ≠ (p : Int).toNat from fun e3 => nz (by
            have : z = za ∨ z = zb := by omega
            rcases this with e4 | e4
            · left; rw [e4]; exact za5
            · right; rw [e4]; exact zb5))]
          exact z4
        · unfold rT
          rw [if_neg nz]
          exact z5
