/-- how often a byte stands among the first; the bytes that stand there, in their order -/
def oc (S : Nat → Int) (v : Int) : Nat → Nat
  | 0 => 0
  | i + 1 => oc S v i + (if S i = v then 1 else 0)
def gs (S : Nat → Int) (n : Nat) : Nat → Nat × (Nat → Int) × (Nat → Int)
  | 0 => (0, fun _ => 0, fun _ => 0)
  | v + 1 => if 0 < oc S (v : Int) n then ((gs S n v).1 + 1, va_up (gs S n v).2.1 (gs S n v).1 (v : Int), va_up (gs S n v).2.2 (gs S n v).1 (oc S (v : Int) n : Int)) else gs S n v
def soN (S : Nat → Int) (n : Nat) : Nat → Nat
  | 0 => 0
  | v + 1 => soN S n v + oc S (v : Int) n
theorem soN_s {S : Nat → Int} {n : Nat} (h : 0 ≤ S n) : ∀ v : Nat, soN S (n + 1) v = soN S n v + (if S n < v then 1 else 0) := by
  intro v
  induction v with
  | zero =>
    rw [if_neg (by omega)]
    rfl
  | succ v ih =>
    show soN S (n + 1) v + (oc S (v : Int) n + (if S n = (v : Int) then 1 else 0)) = soN S n v + oc S (v : Int) n + _
    rw [ih]
    by_cases c1 : S n < v
    · rw [if_pos c1, if_neg (by omega), if_pos (by omega)]
      omega
    · by_cases c2 : S n = v
      · rw [if_neg c1, if_pos c2, if_pos (by omega)]
        omega
      · rw [if_neg c1, if_neg c2, if_neg (by omega)]
        omega
theorem soN_all {S : Nat → Int} : ∀ n : Nat, (∀ i, i < n → 0 ≤ S i ∧ S i < 256) → soN S n 256 = n := by
  intro n
  induction n with
  | zero =>
    intro _
    have : ∀ v : Nat, soN S 0 v = 0 := by
      intro v
      induction v with
      | zero => rfl
      | succ v ih =>
        show soN S 0 v + 0 = 0
        rw [ih]
    exact this 256
  | succ n ih =>
    intro h
    have h1 := h n (by omega)
    rw [soN_s h1.1, ih (fun i hi => h i (by omega)), if_pos (by omega)]
theorem gs_ok {S : Nat → Int} {n : Nat} : ∀ v : Nat, (gs S n v).1 ≤ v ∧ (∀ k, k < (gs S n v).1 → 0 ≤ (gs S n v).2.1 k ∧ (gs S n v).2.1 k < v ∧ (gs S n v).2.2 k = (oc S ((gs S n v).2.1 k) n : Int) ∧ 1 ≤ (gs S n v).2.2 k) ∧ (∀ k, k + 1 < (gs S n v).1 → (gs S n v).2.1 k < (gs S n v).2.1 (k + 1)) ∧ sm (gs S n v).2.2 (gs S n v).1 = (soN S n v : Int) ∧ (gs S n v).1 ≤ soN S n v ∧ ∀ u : Nat, u < v → 0 < oc S (u : Int) n → ∃ k, k < (gs S n v).1 ∧ (gs S n v).2.1 k = (u : Int) := by
  intro v
  induction v with
  | zero => exact ⟨Nat.le_refl _, fun k hk => (by cases hk), fun k hk => (by cases hk), rfl, Nat.le_refl _, fun u hu => (by omega)⟩
  | succ v ih =>
    obtain ⟨h1, h2, h3, h4, h5, h6⟩ := ih
    unfold gs
    split
    · rename_i hc
      try dsimp only
      refine ⟨by omega, fun k hk => ?_, fun k hk => ?_, ?_, ?_, fun u hu ho => ?_⟩
      · by_cases e : k = (gs S n v).1
        · rw [e, up_s, up_s]
          exact ⟨by omega, by omega, rfl, by omega⟩
        · rw [up_n e, up_n e]
          obtain ⟨a1, a2, a3⟩ := h2 k (by omega)
          exact ⟨a1, by omega, a3⟩
      · rw [up_n (show k ≠ _ by omega)]
        by_cases e : k + 1 = (gs S n v).1
        · rw [e, up_s]
          exact (h2 k (by omega)).2.1
        · rw [up_n e]
          exact h3 k (by omega)
      · show sm (va_up _ _ _) (gs S n v).1 + va_up _ _ _ (gs S n v).1 = ((soN S n v + oc S (v : Int) n : Nat) : Int)
        rw [sm_set, if_neg (by omega), up_s, h4]
        omega
      · show _ ≤ soN S n v + oc S (v : Int) n
        omega
      · by_cases e : u = v
        · exact ⟨(gs S n v).1, by omega, by rw [up_s, e]⟩
        · obtain ⟨k, k1, k2⟩ := h6 u (by omega) ho
          exact ⟨k, by omega, by rw [up_n (by omega)]; exact k2⟩
    · rename_i hc
      refine ⟨by omega, fun k hk => ?_, h3, ?_, ?_, fun u hu ho => ?_⟩
      · obtain ⟨a1, a2, a3⟩ := h2 k hk
        exact ⟨a1, by omega, a3⟩
      · show _ = ((soN S n v + oc S (v : Int) n : Nat) : Int)
        rw [h4]
        omega
      · show _ ≤ soN S n v + oc S (v : Int) n
        omega
      · exact h6 u (by
          by_cases e : u = v
          · rw [e] at ho
            omega
          · omega) ho
/-- the lightest tree but one -/
def lt (T W : Nat → Int) (e : Int) : Nat → Int
  | 0 => -1
  | k + 1 => if T k = (k : Int) ∧ (k : Int) ≠ e ∧ (lt T W e k = -1 ∨ W k < W (lt T W e k).toNat) then (k : Int) else lt T W e k
theorem lt_b {T W : Nat → Int} {e : Int} : ∀ k, -1 ≤ lt T W e k ∧ lt T W e k < k := by
  intro k
  induction k with
  | zero => exact ⟨Int.le_refl _, by show (-1 : Int) < 0; decide⟩
  | succ k ih =>
    unfold lt
    split <;> omega
theorem lt_spec {T W : Nat → Int} {e : Int} : ∀ k : Nat, (lt T W e k = -1 ∧ ∀ i : Nat, i < k → ¬ (T i = (i : Int) ∧ (i : Int) ≠ e)) ∨ (∃ x : Nat, lt T W e k = (x : Int) ∧ x < k ∧ T x = (x : Int) ∧ (x : Int) ≠ e ∧ ∀ i : Nat, i < k → T i = (i : Int) → (i : Int) ≠ e → (W x < W i ∨ (W x = W i ∧ x ≤ i))) := by
  intro k
  induction k with
  | zero => exact Or.inl ⟨rfl, fun i hi => by omega⟩
  | succ k ih =>
    by_cases hc : T k = (k : Int) ∧ (k : Int) ≠ e ∧ (lt T W e k = -1 ∨ W k < W (lt T W e k).toNat)
    · have er : lt T W e (k + 1) = (k : Int) := by
        show (if _ then _ else _) = _
        rw [if_pos hc]
      right
      refine ⟨k, er, by omega, hc.1, hc.2.1, fun i hi h1 h2 => ?_⟩
      by_cases ei : i = k
      · rw [ei]; right; exact ⟨rfl, Nat.le_refl _⟩
      · rcases ih with ⟨a1, a2⟩ | ⟨x, a1, a2, a3, a4, a5⟩
        · exact absurd ⟨h1, h2⟩ (a2 i (by omega))
        · have := a5 i (by omega) h1 h2
          rw [a1, show (x : Int).toNat = x by omega] at hc
          left
          omega
    · have er : lt T W e (k + 1) = lt T W e k := by
        show (if _ then _ else _) = _
        rw [if_neg hc]
      rw [er]
      rcases ih with ⟨a1, a2⟩ | ⟨x, a1, a2, a3, a4, a5⟩
      · left
        refine ⟨a1, fun i hi q => ?_⟩
        by_cases ei : i = k
        · rw [ei] at q
          exact hc ⟨q.1, q.2, Or.inl a1⟩
        · exact a2 i (by omega) q
      · right
        refine ⟨x, a1, by omega, a3, a4, fun i hi h1 h2 => ?_⟩
        by_cases ei : i = k
        · rw [ei] at h1 h2 ⊢
          by_cases hlt : W k < W x
          · refine absurd ⟨h1, h2, Or.inr ?_⟩ hc
            rw [a1, show (x : Int).toNat = x by omega]
            exact hlt
          · omega
        · exact a5 i (by omega) h1 h2
def mrg (T : Nat → Int) (x y : Int) (k : Nat) : Prop := T k = x ∨ T k = y
noncomputable def jT (c : Nat) (T : Nat → Int) (x y : Int) (k : Nat) : Int := if k < c ∧ (T k = x ∨ T k = y) then x else T k
noncomputable def jL (c : Nat) (T L : Nat → Int) (x y : Int) (k : Nat) : Int := if k < c ∧ (T k = x ∨ T k = y) then L k + 1 else L k
noncomputable def jW (W : Nat → Int) (x y : Int) : Nat → Int := va_up W x.toNat (W x.toNat + W y.toNat)
abbrev mn (x y : Int) : Int := if y < x then y else x
abbrev mx (x y : Int) : Int := if x < y then y else x
def hP1 (c : Nat) (s : (Nat → Int) × (Nat → Int) × (Nat → Int)) : Int := lt s.1 s.2.2 (-1) c
def hP2 (c : Nat) (s : (Nat → Int) × (Nat → Int) × (Nat → Int)) : Int := lt s.1 s.2.2 (hP1 c s) c
noncomputable def hst (c : Nat) (s : (Nat → Int) × (Nat → Int) × (Nat → Int)) : (Nat → Int) × (Nat → Int) × (Nat → Int) := (jT c s.1 (mn (hP1 c s) (hP2 c s)) (mx (hP1 c s) (hP2 c s)), jL c s.1 s.2.1 (mn (hP1 c s) (hP2 c s)) (mx (hP1 c s) (hP2 c s)), jW s.2.2 (mn (hP1 c s) (hP2 c s)) (mx (hP1 c s) (hP2 c s)))
noncomputable def hs (c : Nat) (W : Nat → Int) : Nat → (Nat → Int) × (Nat → Int) × (Nat → Int)
  | 0 => (fun k => (k : Int), fun _ => if c = 1 then 1 else 0, W)
  | r + 1 => hst c (hs c W r)
/-- how many roots there are, what they weigh together -/
def rc (T : Nat → Int) : Nat → Nat
  | 0 => 0
  | k + 1 => rc T k + (if T k = (k : Int) then 1 else 0)
def rw' (T W : Nat → Int) (k : Nat) : Int := if T k = (k : Int) then W k else 0
def fi : Nat → Int
  | 0 => 0
  | 1 => 1
  | n + 2 => fi (n + 1) + fi n
theorem fi_m : ∀ n : Nat, 0 ≤ fi n ∧ fi n ≤ fi (n + 1) := by
  intro n
  induction n with
  | zero => exact ⟨by decide, by decide⟩
  | succ n ih =>
    refine ⟨by omega, ?_⟩
    show fi (n + 1) ≤ fi (n + 1) + fi n
    omega
theorem fi_l {a b : Nat} (h : a ≤ b) : fi a ≤ fi b := by
  induction h with
  | refl => exact Int.le_refl _
  | step h ih => exact Int.le_trans ih (fi_m _).2
/-- what holds of the trees in every round -/
def HI (c : Nat) (tot : Int) (T L W : Nat → Int) : Prop :=
  (∀ k, k < c → (0 ≤ T k ∧ T k < c) ∧ T (T k).toNat = T k ∧ 0 ≤ L k) ∧
  (∀ k, k < c → T k = (k : Int) → 1 ≤ W k) ∧
  sm (rw' T W) c = tot ∧
  (∀ k, k < c → fi ((L k).toNat + 2) ≤ W (T k).toNat) ∧
  (∀ k, k < c → 1 ≤ L k → ∀ y, y < c → T y = (y : Int) → (y : Int) ≠ T k → fi ((L k).toNat + 1) ≤ W y) ∧
  (∀ k, k < c → L k = 0 → T k = (k : Int) ∧ ∀ j, j < c → T j = (k : Int) → j = k)
theorem rc_two {T : Nat → Int} : ∀ c : Nat, (2 ≤ rc T c → ∃ x y : Nat, x < c ∧ y < c ∧ x ≠ y ∧ T x = (x : Int) ∧ T y = (y : Int)) ∧ (1 ≤ rc T c → ∃ x : Nat, x < c ∧ T x = (x : Int)) := by
  intro c
  induction c with
  | zero => exact ⟨fun h => (by cases h), fun h => (by cases h)⟩
  | succ c ih =>
    obtain ⟨h2, h1⟩ := ih
    by_cases hc : T c = (c : Int)
    · have er : rc T (c + 1) = rc T c + 1 := by
        show _ + (if _ then 1 else 0) = _
        rw [if_pos hc]
      refine ⟨fun h => ?_, fun _ => ⟨c, by omega, hc⟩⟩
      obtain ⟨x, x1, x2⟩ := h1 (by omega)
      exact ⟨x, c, by omega, by omega, by omega, x2, hc⟩
    · have er : rc T (c + 1) = rc T c := by
        show _ + (if _ then 1 else 0) = _
        rw [if_neg hc]
        rfl
      rw [er]
      refine ⟨fun h => ?_, fun h => ?_⟩
      · obtain ⟨x, y, x1, y1, x2, x3⟩ := h2 h
        exact ⟨x, y, by omega, by omega, x2, x3⟩
      · obtain ⟨x, x1, x2⟩ := h1 h
        exact ⟨x, by omega, x2⟩
theorem rc_less {T T' : Nat → Int} {g : Nat} (hg : T g = (g : Int)) (hg' : ¬ T' g = (g : Int)) : ∀ c : Nat, (∀ k, k < c → k ≠ g → (T' k = (k : Int) ↔ T k = (k : Int))) → rc T' c + (if g < c then 1 else 0) = rc T c := by
  intro c
  induction c with
  | zero => intro _; rw [if_neg (by omega)]; rfl
  | succ c ih =>
    intro h
    have ih := ih (fun k hk => h k (by omega))
    show rc T' c + (if T' c = (c : Int) then 1 else 0) + _ = rc T c + (if T c = (c : Int) then 1 else 0)
    by_cases e : c = g
    · subst e
      rw [if_neg (by omega)] at ih
      rw [if_neg hg', if_pos hg, if_pos (by omega)]
      omega
    · by_cases hgc : g < c
      · rw [if_pos hgc] at ih
        rw [if_pos (show g < c + 1 by omega)]
        by_cases q : T c = (c : Int)
        · rw [if_pos q, if_pos ((h c (by omega) e).mpr q)]
          omega
        · rw [if_neg q, if_neg (fun z => q ((h c (by omega) e).mp z))]
          omega
      · rw [if_neg hgc] at ih
        rw [if_neg (show ¬ g < c + 1 by omega)]
        by_cases q : T c = (c : Int)
        · rw [if_pos q, if_pos ((h c (by omega) e).mpr q)]
          omega
        · rw [if_neg q, if_neg (fun z => q ((h c (by omega) e).mp z))]
          omega
theorem sm_c {f g : Nat → Int} : ∀ {n : Nat}, (∀ k, k < n → f k = g k) → sm f n = sm g n := by
  intro n
  induction n with
  | zero => intro _; rfl
  | succ n ih =>
    intro h
    show sm f n + f n = sm g n + g n
    rw [ih (fun k hk => h k (by omega)), h n (by omega)]
theorem sm_ge {f : Nat → Int} : ∀ {n : Nat}, (∀ k, k < n → 0 ≤ f k) → 0 ≤ sm f n ∧ ∀ k, k < n → f k ≤ sm f n := by
  intro n
  induction n with
  | zero => intro _; exact ⟨Int.le_refl _, fun k hk => by omega⟩
  | succ n ih =>
    intro h
    obtain ⟨h1, h2⟩ := ih (fun k hk => h k (by omega))
    have h3 := h n (by omega)
    refine ⟨by show 0 ≤ sm f n + f n; omega, fun k hk => ?_⟩
    show f k ≤ sm f n + f n
    by_cases e : k = n
    · rw [e]; omega
    · have := h2 k (by omega)
      omega
theorem jT_m {c : Nat} {T : Nat → Int} {x y : Int} {k : Nat} (hk : k < c) (h : T k = x ∨ T k = y) : jT c T x y k = x := by unfold jT; rw [if_pos ⟨hk, h⟩]
theorem jT_o {c : Nat} {T : Nat → Int} {x y : Int} {k : Nat} (h : ¬ (T k = x ∨ T k = y)) : jT c T x y k = T k := by unfold jT; rw [if_neg (fun q => h q.2)]
theorem jL_m {c : Nat} {T L : Nat → Int} {x y : Int} {k : Nat} (hk : k < c) (h : T k = x ∨ T k = y) : jL c T L x y k = L k + 1 := by unfold jL; rw [if_pos ⟨hk, h⟩]
theorem jL_o {c : Nat} {T L : Nat → Int} {x y : Int} {k : Nat} (h : ¬ (T k = x ∨ T k = y)) : jL c T L x y k = L k := by unfold jL; rw [if_neg (fun q => h q.2)]
theorem jT_r {c : Nat} {T : Nat → Int} {p g k : Nat} (hk : k < c) (hp : T p = (p : Int)) (hg : T g = (g : Int)) (hpg : p ≠ g) : jT c T p g k = (k : Int) ↔ (T k = (k : Int) ∧ k ≠ g) := by
  by_cases h : T k = (p : Int) ∨ T k = (g : Int)
  · rw [jT_m hk h]
    constructor
    · intro q
      have : p = k := by omega
      subst this
      exact ⟨hp, hpg⟩
    · rintro ⟨q1, q2⟩
      omega
  · rw [jT_o h]
    constructor
    · intro q
      refine ⟨q, fun e => h (Or.inr ?_)⟩
      rw [e]; exact hg
    · exact fun q => q.1
theorem HI_step {c : Nat} {tot : Int} {T L W : Nat → Int} {p g : Nat} (h : HI c tot T L W) (hp : p < c) (hg : g < c) (hpg : p ≠ g) (hTp : T p = (p : Int)) (hTg : T g = (g : Int)) (hmin : ∀ z, z < c → T z = (z : Int) → z ≠ p → z ≠ g → W p ≤ W z ∧ W g ≤ W z) : HI c tot (jT c T p g) (jL c T L p g) (jW W p g) ∧ rc (jT c T p g) c + 1 = rc T c := by
  obtain ⟨i1, i2, i3, i4, i5, i6⟩ := h
  have eW : jW W p g = va_up W p (W p + W g) := rfl
  have wp := i2 p hp hTp
  have wg := i2 g hg hTg
  have Wp : jW W p g p = W p + W g := by rw [eW, up_s]
  have Wo : ∀ z, z ≠ p → jW W p g z = W z := fun z hz => by rw [eW, up_n hz]
  have hr : ∀ k, k < c → (jT c T p g k = (k : Int) ↔ (T k = (k : Int) ∧ k ≠ g)) := fun k hk => jT_r hk hTp hTg hpg
  refine ⟨⟨fun k hk => ?_, fun k hk q => ?_, ?_, fun k hk => ?_, fun k hk hl y hy q1 q2 => ?_, fun k hk q => ?_⟩, ?_⟩
  · obtain ⟨a1, a2, a3⟩ := i1 k hk
    by_cases m : T k = (p : Int) ∨ T k = (g : Int)
    · rw [jT_m hk m, jL_m hk m, show (p : Int).toNat = p by omega]
      exact ⟨by omega, (hr p hp).mpr ⟨hTp, hpg⟩, by omega⟩
    · rw [jT_o m, jL_o m]
      refine ⟨a1, ?_, a3⟩
      rw [jT_o]
      · exact a2
      · rw [a2]; exact m
  · obtain ⟨q1, q2⟩ := (hr k hk).mp q
    by_cases e : k = p
    · rw [e, Wp]; omega
    · rw [Wo k e]; exact i2 k hk q1
  · rw [← i3]
    have e : ∀ k, k < c → rw' (jT c T p g) (jW W p g) k = va_up (va_up (rw' T W) p (W p + W g)) g 0 k := by
      intro k hk
      unfold rw'
      by_cases e1 : k = g
      · rw [e1, up_s, if_neg (fun q => ((hr g hg).mp q).2 rfl)]
      · rw [up_n e1]
        by_cases e2 : k = p
        · rw [e2, up_s, if_pos ((hr p hp).mpr ⟨hTp, hpg⟩), Wp]
        · rw [up_n e2, Wo k e2]
          by_cases e3 : T k = (k : Int)
          · rw [if_pos e3, if_pos ((hr k hk).mpr ⟨e3, e1⟩)]
          · rw [if_neg e3, if_neg (fun q => e3 ((hr k hk).mp q).1)]
    rw [sm_c e, sm_set, sm_set, if_pos hg, if_pos hp, up_n (Ne.symm hpg)]
    unfold rw'
    rw [if_pos hTp, if_pos hTg]
    omega
  · obtain ⟨a1, a2, a3⟩ := i1 k hk
    by_cases m : T k = (p : Int) ∨ T k = (g : Int)
    · rw [jT_m hk m, jL_m hk m, show (p : Int).toNat = p by omega, Wp, show (L k + 1).toNat + 2 = (L k).toNat + 1 + 2 by omega]
      show fi ((L k).toNat + 1 + 1) + fi ((L k).toNat + 1) ≤ _
      have h4 := i4 k hk
      by_cases l0 : L k = 0
      · rw [l0]
        show fi 2 + fi 1 ≤ _
        have : fi 2 + fi 1 = 2 := by decide
        omega
      · rcases m with m | m
        · rw [m, show (p : Int).toNat = p by omega] at h4
          have := i5 k hk (by omega) g hg hTg (by rw [m]; omega)
          show fi ((L k).toNat + 2) + _ ≤ _
          omega
        · rw [m, show (g : Int).toNat = g by omega] at h4
          have := i5 k hk (by omega) p hp hTp (by rw [m]; omega)
          show fi ((L k).toNat + 2) + _ ≤ _
          omega
    · rw [jT_o m, jL_o m, Wo _ (by omega)]
      exact i4 k hk
  · obtain ⟨a1, a2, a3⟩ := i1 k hk
    obtain ⟨y1, y2⟩ := (hr y hy).mp q1
    have h4 := i4 k hk
    by_cases m : T k = (p : Int) ∨ T k = (g : Int)
    · rw [jT_m hk m] at q2
      rw [jL_m hk m, Wo y (by omega), show (L k + 1).toNat + 1 = (L k).toNat + 2 by omega]
      have hm := hmin y hy y1 (by omega) y2
      rcases m with m | m
      · rw [m, show (p : Int).toNat = p by omega] at h4
        omega
      · rw [m, show (g : Int).toNat = g by omega] at h4
        omega
    · rw [jT_o m] at q2
      rw [jL_o m] at hl ⊢
      by_cases e : y = p
      · rw [e, Wp]
        have := i5 k hk hl p hp hTp (fun q => m (Or.inl q.symm))
        omega
      · rw [Wo y e]
        exact i5 k hk hl y hy y1 q2
  · obtain ⟨a1, a2, a3⟩ := i1 k hk
    by_cases m : T k = (p : Int) ∨ T k = (g : Int)
    · rw [jL_m hk m] at q
      omega
    · rw [jL_o m] at q
      obtain ⟨b1, b2⟩ := i6 k hk q
      rw [jT_o m]
      refine ⟨b1, fun j hj q2 => ?_⟩
      by_cases m2 : T j = (p : Int) ∨ T j = (g : Int)
      · rw [jT_m hj m2] at q2
        exact absurd (Or.inl (b1.trans q2.symm)) m
      · rw [jT_o m2] at q2
        exact b2 j hj q2
  · have := rc_less (T := T) (T' := jT c T p g) (g := g) hTg (fun q => ((hr g hg).mp q).2 rfl) c (fun k hk e => ⟨fun q => ((hr k hk).mp q).1, fun q => (hr k hk).mpr ⟨q, e⟩⟩)
    rw [if_pos hg] at this
    exact this
theorem h_two {c : Nat} {s : (Nat → Int) × (Nat → Int) × (Nat → Int)} (hr : 2 ≤ rc s.1 c) : ∃ x y : Nat, hP1 c s = (x : Int) ∧ hP2 c s = (y : Int) ∧ x < c ∧ y < c ∧ x ≠ y ∧ s.1 x = (x : Int) ∧ s.1 y = (y : Int) ∧ (∀ i, i < c → s.1 i = (i : Int) → (s.2.2 x < s.2.2 i ∨ (s.2.2 x = s.2.2 i ∧ x ≤ i))) ∧ (∀ i, i < c → s.1 i = (i : Int) → i ≠ x → (s.2.2 y < s.2.2 i ∨ (s.2.2 y = s.2.2 i ∧ y ≤ i))) := by
  obtain ⟨u, v, u1, v1, uv, u2, v2⟩ := (rc_two c).1 hr
  rcases lt_spec (T := s.1) (W := s.2.2) (e := -1) c with ⟨a1, a2⟩ | ⟨x, x1, x2, x3, x4, x5⟩
  · exact absurd ⟨u2, by omega⟩ (a2 u u1)
  · have ex : hP1 c s = (x : Int) := x1
    rcases lt_spec (T := s.1) (W := s.2.2) (e := (x : Int)) c with ⟨a1, a2⟩ | ⟨y, y1, y2, y3, y4, y5⟩
    · by_cases e : u = x
      · exact absurd ⟨v2, by omega⟩ (a2 v v1)
      · exact absurd ⟨u2, by omega⟩ (a2 u u1)
    · refine ⟨x, y, ex, ?_, x2, y2, by omega, x3, y3, fun i hi h => x5 i hi h (by omega), fun i hi h h' => y5 i hi h (by omega)⟩
      unfold hP2
      rw [ex]
      exact y1
theorem hs_ok {c : Nat} {W : Nat → Int} {tot : Int} (hc : 2 ≤ c) (hW : ∀ k, k < c → 1 ≤ W k) (ht : sm W c = tot) : ∀ r, r + 1 ≤ c → HI c tot (hs c W r).1 (hs c W r).2.1 (hs c W r).2.2 ∧ rc (hs c W r).1 c + r = c := by
  intro r
  induction r with
  | zero =>
    intro _
    have e0 : ∀ k, (hs c W 0).2.1 k = 0 := fun k => by show (if c = 1 then (1 : Int) else 0) = 0; rw [if_neg (by omega)]
    refine ⟨⟨fun k hk => ⟨⟨by show 0 ≤ (k : Int); omega, by show (k : Int) < c; omega⟩, ?_, by rw [e0]; decide⟩, fun k hk _ => hW k hk, ?_, fun k hk => ?_, fun k hk q => by rw [e0] at q; omega, fun k hk _ => ⟨rfl, fun j hj q => ?_⟩⟩, ?_⟩
    · show (((k : Int).toNat : Nat) : Int) = (k : Int)
      omega
    · rw [← ht]
      exact sm_c (fun k hk => by unfold rw'; rw [if_pos (show (hs c W 0).1 k = (k : Int) from rfl)]; rfl)
    · rw [e0]
      show fi 2 ≤ W (k : Int).toNat
      rw [show (k : Int).toNat = k by omega]
      exact hW k hk
    · have q : (j : Int) = (k : Int) := q
      omega
    · have : ∀ k : Nat, rc (fun k => (k : Int)) k = k := by
        intro k
        induction k with
        | zero => rfl
        | succ k ih =>
          show rc _ k + (if _ then 1 else 0) = _
          rw [ih, if_pos rfl]
      exact this c
  | succ r ih =>
    intro hr
    obtain ⟨g1, g2⟩ := ih (by omega)
    obtain ⟨x, y, ex, ey, hx, hy, hxy, tx, ty, mx1, my1⟩ := h_two (c := c) (s := hs c W r) (by omega)
    show HI c tot (hst c (hs c W r)).1 (hst c (hs c W r)).2.1 (hst c (hs c W r)).2.2 ∧ rc (hst c (hs c W r)).1 c + (r + 1) = c
    unfold hst
    rw [ex, ey]
    by_cases hlt : x < y
    · rw [show mn (x : Int) y = (x : Int) by unfold mn; rw [if_neg (by omega)], show mx (x : Int) y = (y : Int) by unfold mx; rw [if_pos (by omega)]]
      obtain ⟨k1, k2⟩ := HI_step g1 hx hy hxy tx ty (fun z hz tz z1 z2 => by
        have := mx1 z hz tz
        have := my1 z hz tz z1
        omega)
      exact ⟨k1, by dsimp only; omega⟩
    · rw [show mn (x : Int) y = (y : Int) by unfold mn; rw [if_pos (by omega)], show mx (x : Int) y = (x : Int) by unfold mx; rw [if_neg (by omega)]]
      obtain ⟨k1, k2⟩ := HI_step g1 hy hx (Ne.symm hxy) ty tx (fun z hz tz z1 z2 => by
        have := mx1 z hz tz
        have := my1 z hz tz z2
        omega)
      exact ⟨k1, by dsimp only; omega⟩
theorem hs_len {c : Nat} {W : Nat → Int} (hc : 1 ≤ c) (hW : ∀ k, k < c → 1 ≤ W k) (ht : sm W c ≤ 96) : ∀ k, k < c → 1 ≤ (hs c W (c - 1)).2.1 k ∧ (hs c W (c - 1)).2.1 k ≤ 9 := by
  by_cases h1 : c = 1
  · subst h1
    intro k hk
    show 1 ≤ (if 1 = 1 then (1 : Int) else 0) ∧ (if 1 = 1 then (1 : Int) else 0) ≤ 9
    rw [if_pos rfl]
    decide
  · obtain ⟨⟨i1, i2, i3, i4, i5, i6⟩, g2⟩ := hs_ok (by omega) hW rfl (c - 1) (by omega)
    intro k hk
    obtain ⟨⟨a1, a2⟩, a3, a4⟩ := i1 k hk
    refine ⟨?_, ?_⟩
    · by_cases l0 : (hs c W (c - 1)).2.1 k = 0
      · exfalso
        obtain ⟨b1, b2⟩ := i6 k hk l0
        obtain ⟨j, hj, hjk⟩ : ∃ j, j < c ∧ j ≠ k := by
          by_cases e : k = 0
          · exact ⟨1, by omega, by omega⟩
          · exact ⟨0, by omega, fun q => e q.symm⟩
        obtain ⟨⟨c1, c2⟩, c3, -⟩ := i1 j hj
        have hne : (hs c W (c - 1)).1 j ≠ (k : Int) := fun q => hjk (b2 j hj q)
        obtain ⟨u, eu⟩ := Int.eq_ofNat_of_zero_le c1
        rw [eu, show (u : Int).toNat = u by omega] at c3
        have two : ∀ n : Nat, u < n → k < n → 2 ≤ rc (hs c W (c - 1)).1 n := by
          intro n
          induction n with
          | zero => intro h; omega
          | succ n ih =>
            intro hu hk
            show 2 ≤ rc _ n + (if _ then 1 else 0)
            by_cases q1 : u < n
            · by_cases q2 : k < n
              · have := ih q1 q2
                omega
              · obtain rfl : k = n := by omega
                rw [if_pos b1]
                have : ∀ m : Nat, u < m → 1 ≤ rc (hs c W (c - 1)).1 m := by
                  intro m
                  induction m with
                  | zero => intro h; omega
                  | succ m ihm =>
                    intro h
                    show 1 ≤ rc _ m + (if _ then 1 else 0)
                    by_cases q : u < m
                    · have := ihm q; omega
                    · obtain rfl : u = m := by omega
                      rw [if_pos c3]; omega
                have := this k q1
                omega
            · obtain rfl : u = n := by omega
              rw [if_pos c3]
              have : ∀ m : Nat, k < m → 1 ≤ rc (hs c W (c - 1)).1 m := by
                intro m
                induction m with
                | zero => intro h; omega
                | succ m ihm =>
                  intro h
                  show 1 ≤ rc _ m + (if _ then 1 else 0)
                  by_cases q : k < m
                  · have := ihm q; omega
                  · obtain rfl : k = m := by omega
                    rw [if_pos b1]; omega
              have := this u (by omega)
              omega
        have := two c (by omega) hk
        omega
      · omega
    · by_cases l10 : 10 ≤ (hs c W (c - 1)).2.1 k
      · exfalso
        have h4 := i4 k hk
        have hf := fi_l (show 12 ≤ ((hs c W (c - 1)).2.1 k).toNat + 2 by omega)
        have f12 : fi 12 = 144 := by decide
        obtain ⟨u, eu⟩ := Int.eq_ofNat_of_zero_le a1
        rw [eu, show (u : Int).toNat = u by omega] at a3 h4
        have hs0 := (sm_ge (f := rw' (hs c W (c - 1)).1 (hs c W (c - 1)).2.2) (n := c) (fun z hz => by
          unfold rw'
          split
          · rename_i q
            have := i2 z hz q
            omega
          · omega)).2 u (by omega)
        rw [i3] at hs0
        unfold rw' at hs0
        rw [if_pos a3] at hs0
        omega
      · omega
