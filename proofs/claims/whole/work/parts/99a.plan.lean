/-- entries of seven words, sorted; what a commit plans -/
def ipos (W : Nat → Int) (a v : Int) : Nat → Nat
  | 0 => 0
  | k + 1 => if W (7 * k) < a ∨ (W (7 * k) = a ∧ W (7 * k + 1) < v) then k + 1 else ipos W a v k
def insW (W : Nat → Int) (p : Nat) (E : Nat → Int) (j : Nat) : Int := if j < 7 * p then W j else if j < 7 * p + 7 then E (j - 7 * p) else W (j - 7)
def e7 (a v f s g z t : Int) (j : Nat) : Int := if j = 0 then a else if j = 1 then v else if j = 2 then f else if j = 3 then s else if j = 4 then g else if j = 5 then z else t
def Srt (W : Nat → Int) (c : Nat) : Prop := ∀ k, k + 1 < c → ls W k (W (7 * (k + 1))) (W (7 * (k + 1) + 1))
def kpN (G W : Nat → Int) : Nat → Nat × (Nat → Int)
  | 0 => (0, fun _ => 0)
  | k + 1 => if G k = 0 then ((kpN G W k).1 + 1, fun j => if j < 7 * (kpN G W k).1 then (kpN G W k).2 j else W (7 * k + (j - 7 * (kpN G W k).1))) else kpN G W k
def vr (B N : Nat → Int) (i : Nat) : Int := B (N i).toNat + 1 + oc N (N i) i
def plN (K : Nat × (Nat → Int)) (B N Z : Nat → Int) (f s t : Int) : Nat → Nat × (Nat → Int)
  | 0 => K
  | i + 1 => ((plN K B N Z f s t i).1 + 1, insW (plN K B N Z f s t i).2 (ipos (plN K B N Z f s t i).2 (N i) (vr B N i) (plN K B N Z f s t i).1) (e7 (N i) (vr B N i) f s (sm Z i) (Z i) t))
theorem ipos_ok {W : Nat → Int} {a v : Int} : ∀ c, ipos W a v c ≤ c ∧ (∀ k, ipos W a v c ≤ k → k < c → ¬ ls W k a v) ∧ (0 < ipos W a v c → ls W (ipos W a v c - 1) a v) := by
  intro c
  induction c with
  | zero => exact ⟨Nat.le_refl _, fun k _ h => by omega, fun h => by cases h⟩
  | succ c ih =>
    obtain ⟨h1, h2, h3⟩ := ih
    unfold ipos
    by_cases e : W (7 * c) < a ∨ (W (7 * c) = a ∧ W (7 * c + 1) < v)
    · rw [if_pos e]
      exact ⟨Nat.le_refl _, fun k k1 k2 => by omega, fun _ => e⟩
    · rw [if_neg e]
      refine ⟨by omega, fun k k1 k2 => ?_, h3⟩
      by_cases ek : k = c
      · rw [ek]; exact e
      · exact h2 k k1 (by omega)
theorem ipos_c {W W' : Nat → Int} {a v : Int} : ∀ {c : Nat}, (∀ j, j < 7 * c → W j = W' j) → ipos W a v c = ipos W' a v c := by
  intro c
  induction c with
  | zero => intro _; rfl
  | succ c ih =>
    intro h
    unfold ipos
    rw [h (7 * c) (by omega), h (7 * c + 1) (by omega), ih (fun j hj => h j (by omega))]
theorem insW_lo {W E : Nat → Int} {p k u : Nat} (h : k < p) (hu : u < 7) : insW W p E (7 * k + u) = W (7 * k + u) := by unfold insW; rw [if_pos (by omega)]
theorem insW_at {W E : Nat → Int} {p u : Nat} (hu : u < 7) : insW W p E (7 * p + u) = E u := by
  unfold insW
  rw [if_neg (by omega), if_pos (by omega), show 7 * p + u - 7 * p = u by omega]
theorem insW_hi {W E : Nat → Int} {p k u : Nat} (h : p ≤ k) (hu : u < 7) : insW W p E (7 * (k + 1) + u) = W (7 * k + u) := by
  unfold insW
  rw [if_neg (by omega), if_neg (by omega), show 7 * (k + 1) + u - 7 = 7 * k + u by omega]
theorem insW_hi' {W E : Nat → Int} {p k u : Nat} (h : p < k) (hu : u < 7) : insW W p E (7 * k + u) = W (7 * (k - 1) + u) := by
  unfold insW
  rw [if_neg (by omega), if_neg (by omega), show 7 * k + u - 7 = 7 * (k - 1) + u by omega]
theorem ls_t {W : Nat → Int} {i k : Nat} {a v : Int} (h : ls W i (W (7 * k)) (W (7 * k + 1))) (h' : ls W k a v) : ls W i a v := by
  unfold ls at *
  omega
theorem Srt_lt {W : Nat → Int} {c : Nat} (h : Srt W c) : ∀ {k i : Nat}, i < k → k < c → ls W i (W (7 * k)) (W (7 * k + 1)) := by
  intro k
  induction k with
  | zero => intro i hi; omega
  | succ k ih =>
    intro i hi hk
    have h1 := h k hk
    by_cases e : i = k
    · rw [e]; exact h1
    · exact ls_t (ih (by omega) (by omega)) h1
/-- an insertion keeps the order -/
theorem ins_srt {W E : Nat → Int} {c : Nat} (h : Srt W c) (hne : ∀ k, k < c → ¬ (W (7 * k) = E 0 ∧ W (7 * k + 1) = E 1)) : Srt (insW W (ipos W (E 0) (E 1) c) E) (c + 1) := by
  obtain ⟨h1, h2, h3⟩ := ipos_ok (W := W) (a := E 0) (v := E 1) c
  generalize ipos W (E 0) (E 1) c = p at *
  intro k hk
  have i0 : ∀ q, insW W p E (7 * q) = insW W p E (7 * q + 0) := fun q => rfl
  show insW W p E (7 * k) < insW W p E (7 * (k + 1)) ∨ (insW W p E (7 * k) = insW W p E (7 * (k + 1)) ∧ insW W p E (7 * k + 1) < insW W p E (7 * (k + 1) + 1))
  rw [i0 k, i0 (k + 1)]
  by_cases c1 : k + 1 < p
  · rw [insW_lo (k := k) (u := 0) (by omega) (by omega), insW_lo (k := k + 1) (u := 0) c1 (by omega), insW_lo (k := k) (u := 1) (by omega) (by omega), insW_lo (k := k + 1) (u := 1) c1 (by omega)]
    exact h k (by omega)
  · by_cases c2 : k + 1 = p
    · rw [insW_lo (k := k) (u := 0) (by omega) (by omega), insW_lo (k := k) (u := 1) (by omega) (by omega), c2, insW_at (u := 0) (by omega), insW_at (u := 1) (by omega)]
      have := h3 (by omega)
      rw [show p - 1 = k by omega] at this
      exact this
    · by_cases c3 : k = p
      · subst c3
        rw [insW_at (u := 0) (by omega), insW_at (u := 1) (by omega), insW_hi (u := 0) (Nat.le_refl _) (by omega), insW_hi (u := 1) (Nat.le_refl _) (by omega)]
        have a1 := h2 k (Nat.le_refl _) (by omega)
        have a2 := hne k (by omega)
        unfold ls at a1
        show E 0 < W (7 * k) ∨ (E 0 = W (7 * k) ∧ E 1 < W (7 * k + 1))
        omega
      · rw [insW_hi' (u := 0) (show p < k by omega) (by omega), insW_hi' (u := 1) (show p < k by omega) (by omega), insW_hi (u := 0) (show p ≤ k by omega) (by omega), insW_hi (u := 1) (show p ≤ k by omega) (by omega)]
        have := h (k - 1) (by omega)
        rw [show k - 1 + 1 = k by omega] at this
        exact this
/-- every entry of the new row is the new one or an old one -/
theorem ins_all {W E : Nat → Int} {c p : Nat} (hp : p ≤ c) {P : (Nat → Int) → Prop} (hE : P (fun u => E u)) (hW : ∀ k, k < c → P (fun u => W (7 * k + u))) (hc : ∀ f g : Nat → Int, (∀ u, u < 7 → f u = g u) → P f → P g) : ∀ k, k < c + 1 → P (fun u => insW W p E (7 * k + u)) := by
  intro k hk
  by_cases c1 : k < p
  · exact hc _ _ (fun u hu => (insW_lo c1 hu).symm) (hW k (by omega))
  · by_cases c2 : k = p
    · subst c2
      exact hc _ _ (fun u hu => (insW_at hu).symm) hE
    · exact hc _ _ (fun u hu => (insW_hi' (by omega) hu).symm) (hW (k - 1) (by omega))
def En (f : Nat → Int) : Prop := (0 ≤ f 0 ∧ f 0 ≤ 7) ∧ (1 ≤ f 1 ∧ f 1 ≤ 255) ∧ 2 ≤ f 2 ∧ 1 ≤ f 3 ∧ f 2 + f 3 ≤ 48 ∧ (0 ≤ f 4 ∧ f 4 ≤ 255) ∧ (0 ≤ f 5 ∧ f 5 ≤ 24) ∧ (0 ≤ f 6 ∧ f 6 ≤ 255)
theorem En_c {f g : Nat → Int} (h : ∀ u, u < 7 → f u = g u) (hf : En f) : En g := by
  unfold En at *
  rw [← h 0 (by omega), ← h 1 (by omega), ← h 2 (by omega), ← h 3 (by omega), ← h 4 (by omega), ← h 5 (by omega), ← h 6 (by omega)]
  exact hf
/-- the kept entries -/
theorem kp_ok {G W : Nat → Int} {n : Nat} (hs : Srt W n) : ∀ k, k ≤ n → (kpN G W k).1 ≤ k ∧ (∀ j, j < (kpN G W k).1 → ∃ i, i < k ∧ G i = 0 ∧ ∀ u, u < 7 → (kpN G W k).2 (7 * j + u) = W (7 * i + u)) ∧ Srt (kpN G W k).2 (kpN G W k).1 := by
  intro k
  induction k with
  | zero => intro _; exact ⟨Nat.le_refl _, fun j hj => (by cases hj), fun j hj => (by cases hj)⟩
  | succ k ih =>
    intro hk
    obtain ⟨h1, h2, h3⟩ := ih (by omega)
    unfold kpN
    by_cases e : G k = 0
    · rw [if_pos e]
      generalize ec : (kpN G W k).1 = c at *
      generalize (kpN G W k).2 = V at *
      have lo : ∀ j u, j < c → u < 7 → (if 7 * j + u < 7 * c then V (7 * j + u) else W (7 * k + (7 * j + u - 7 * c))) = V (7 * j + u) := fun j u hj hu => by rw [if_pos (by omega)]
      have hi : ∀ u, u < 7 → (if 7 * c + u < 7 * c then V (7 * c + u) else W (7 * k + (7 * c + u - 7 * c))) = W (7 * k + u) := fun u hu => by rw [if_neg (by omega), show 7 * c + u - 7 * c = u by omega]
      refine ⟨by dsimp only; omega, fun j hj => ?_, fun j hj => ?_⟩
      · have hj : j < c + 1 := hj
        by_cases ej : j = c
        · subst ej
          exact ⟨k, by omega, e, fun u hu => hi u hu⟩
        · obtain ⟨i, i1, i2, i3⟩ := h2 j (by omega)
          exact ⟨i, by omega, i2, fun u hu => (lo j u (by omega) hu).trans (i3 u hu)⟩
      · have hj : j + 1 < c + 1 := hj
        have l0 := lo j 0 (by omega) (by omega)
        have l1 := lo j 1 (by omega) (by omega)
        show (if 7 * j + 0 < 7 * c then V (7 * j + 0) else W (7 * k + (7 * j + 0 - 7 * c))) < (if 7 * (j + 1) + 0 < 7 * c then V (7 * (j + 1) + 0) else W (7 * k + (7 * (j + 1) + 0 - 7 * c))) ∨ ((if 7 * j + 0 < 7 * c then V (7 * j + 0) else W (7 * k + (7 * j + 0 - 7 * c))) = (if 7 * (j + 1) + 0 < 7 * c then V (7 * (j + 1) + 0) else W (7 * k + (7 * (j + 1) + 0 - 7 * c))) ∧ (if 7 * j + 1 < 7 * c then V (7 * j + 1) else W (7 * k + (7 * j + 1 - 7 * c))) < (if 7 * (j + 1) + 1 < 7 * c then V (7 * (j + 1) + 1) else W (7 * k + (7 * (j + 1) + 1 - 7 * c))))
        rw [l0, l1]
        by_cases ej : j + 1 = c
        · rw [ej, hi 0 (by omega), hi 1 (by omega)]
          obtain ⟨i, i1, i2, i3⟩ := h2 j (by omega)
          rw [i3 0 (by omega), i3 1 (by omega)]
          exact Srt_lt hs i1 (by omega)
        · rw [lo (j + 1) 0 (by omega) (by omega), lo (j + 1) 1 (by omega) (by omega)]
          exact h3 j (by omega)
    · rw [if_neg e]
      refine ⟨by omega, fun j hj => ?_, h3⟩
      obtain ⟨i, i1, i2, i3⟩ := h2 j hj
      exact ⟨i, by omega, i2, i3⟩
theorem kp_n {G W : Nat → Int} : ∀ k, (∀ j, j < k → G j = 0 ∨ G j = 1) → ((kpN G W k).1 : Int) + sm G k = k := by
  intro k
  induction k with
  | zero => intro _; rfl
  | succ k ih =>
    intro h
    have h1 := ih (fun j hj => h j (by omega))
    unfold kpN
    show _ + (sm G k + G k) = _
    rcases h k (by omega) with e | e
    · rw [if_pos e]; dsimp only; omega
    · rw [if_neg (by omega)]; omega
/-- a kept entry is entered at the end -/
theorem kp_end {G W : Nat → Int} {n k : Nat} (hs : Srt W n) (hk : k < n) : ipos (kpN G W k).2 (W (7 * k)) (W (7 * k + 1)) (kpN G W k).1 = (kpN G W k).1 ∧ ∀ j, j < (kpN G W k).1 → ¬ ((kpN G W k).2 (7 * j) = W (7 * k) ∧ (kpN G W k).2 (7 * j + 1) = W (7 * k + 1)) := by
  obtain ⟨h1, h2, h3⟩ := kp_ok (G := G) hs k (by omega)
  have all : ∀ j, j < (kpN G W k).1 → ls (kpN G W k).2 j (W (7 * k)) (W (7 * k + 1)) := by
    intro j hj
    obtain ⟨i, i1, i2, i3⟩ := h2 j hj
    have := Srt_lt hs i1 hk
    unfold ls at *
    have e0 := i3 0 (by omega)
    have e1 := i3 1 (by omega)
    simp only [Nat.add_zero] at e0
    omega
  obtain ⟨p1, p2, p3⟩ := ipos_ok (W := (kpN G W k).2) (a := W (7 * k)) (v := W (7 * k + 1)) (kpN G W k).1
  refine ⟨?_, fun j hj q => ?_⟩
  · by_cases e : ipos (kpN G W k).2 (W (7 * k)) (W (7 * k + 1)) (kpN G W k).1 = (kpN G W k).1
    · exact e
    · exact absurd (all _ (show _ < _ by omega)) (p2 _ (Nat.le_refl _) (by omega))
  · have := all j hj
    unfold ls at this
    omega
/-- what holds of the planned entries -/
def PK (B N : Nat → Int) (i : Nat) (K : Nat × (Nat → Int)) : Prop := Srt K.2 K.1 ∧ ∀ k, k < K.1 → En (fun u => K.2 (7 * k + u)) ∧ K.2 (7 * k + 1) ≤ B (K.2 (7 * k)).toNat + oc N (K.2 (7 * k)) i
theorem oc_m (N : Nat → Int) (a : Int) (i : Nat) : oc N a i ≤ oc N a (i + 1) := by
  show _ ≤ oc N a i + _
  omega
theorem PK_0 {G W B N : Nat → Int} {n : Nat} (hs : Srt W n) (hE : ∀ k, k < n → En (fun u => W (7 * k + u))) (hB : ∀ k, k < n → W (7 * k + 1) ≤ B (W (7 * k)).toNat) : PK B N 0 (kpN G W n) := by
  obtain ⟨h1, h2, h3⟩ := kp_ok (G := G) hs n (Nat.le_refl _)
  refine ⟨h3, fun k hk => ?_⟩
  obtain ⟨i, i1, i2, i3⟩ := h2 k hk
  refine ⟨En_c (fun u hu => (i3 u hu).symm) (hE i i1), ?_⟩
  have e0 := i3 0 (by omega)
  have e1 := i3 1 (by omega)
  simp only [Nat.add_zero] at e0
  rw [e0, e1]
  have := hB i i1
  omega
theorem PK_ne {B N : Nat → Int} {i : Nat} {K : Nat × (Nat → Int)} (h : PK B N i K) : ∀ k, k < K.1 → ¬ (K.2 (7 * k) = N i ∧ K.2 (7 * k + 1) = vr B N i) := by
  intro k hk q
  have h2 := (h.2 k hk).2
  unfold vr at q
  rw [q.1] at h2
  omega
theorem PK_s {K : Nat × (Nat → Int)} {B N Z : Nat → Int} {f s t : Int} {i : Nat} (h : PK B N i (plN K B N Z f s t i)) (hN : 0 ≤ N i ∧ N i ≤ 7) (hv : vr B N i ≤ 255) (hB : 0 ≤ B (N i).toNat) (hf : 2 ≤ f) (hs : 1 ≤ s) (hfs : f + s ≤ 48) (hg : 0 ≤ sm Z i ∧ sm Z i ≤ 255) (hz : 0 ≤ Z i ∧ Z i ≤ 24) (ht : 0 ≤ t ∧ t ≤ 255) : PK B N (i + 1) (plN K B N Z f s t (i + 1)) := by
  have hne := PK_ne h
  obtain ⟨h1, h2⟩ := h
  refine ⟨ins_srt (E := e7 (N i) (vr B N i) f s (sm Z i) (Z i) t) h1 hne, ?_⟩
  have hp := (ipos_ok (W := (plN K B N Z f s t i).2) (a := N i) (v := vr B N i) (plN K B N Z f s t i).1).1
  have key := ins_all (E := e7 (N i) (vr B N i) f s (sm Z i) (Z i) t) hp (P := fun g => En g ∧ g 1 ≤ B (g 0).toNat + oc N (g 0) (i + 1)) ⟨?_, ?_⟩ (fun k hk => ⟨(h2 k hk).1, ?_⟩) (fun f g hfg hf => ⟨En_c hfg hf.1, by rw [← hfg 0 (by omega), ← hfg 1 (by omega)]; exact hf.2⟩)
  · intro k hk
    exact key k hk
  · have : (0 : Int) ≤ oc N (N i) i := by omega
    refine ⟨hN, ⟨?_, hv⟩, hf, hs, hfs, hg, hz, ht⟩
    show 1 ≤ vr B N i
    unfold vr
    omega
  · show vr B N i ≤ B (N i).toNat + ((oc N (N i) i + (if N i = N i then 1 else 0) : Nat) : Int)
    rw [if_pos rfl]
    unfold vr
    omega
  · have h3 := (h2 k hk).2
    have h4 := oc_m N ((plN K B N Z f s t i).2 (7 * k)) i
    show (plN K B N Z f s t i).2 (7 * k + 1) ≤ _
    show _ ≤ B ((plN K B N Z f s t i).2 (7 * k)).toNat + (oc N ((plN K B N Z f s t i).2 (7 * k)) (i + 1) : Int)
    omega
theorem plN_n {K : Nat × (Nat → Int)} {B N Z : Nat → Int} {f s t : Int} : ∀ i, (plN K B N Z f s t i).1 = K.1 + i := by
  intro i
  induction i with
  | zero => rfl
  | succ i ih =>
    show (plN K B N Z f s t i).1 + 1 = _
    rw [ih]
    rfl
/-- sectors in use, the first free run -/
def oU (f n : Int) (c : Nat) (W : Nat → Int) (s : Int) : Prop := (f ≤ s ∧ s < f + n) ∨ ∃ k, k < c ∧ W (7 * k + 2) ≤ s ∧ s < W (7 * k + 2) + W (7 * k + 3)
noncomputable def ur (P : Prop) (r : Int) : Int := if bz P = 1 then 0 else r + 1
theorem ur_t {P : Prop} {r : Int} (h : P) : ur P r = 0 := by unfold ur; rw [bz_t h, if_pos rfl]
theorem ur_f {P : Prop} {r : Int} (h : ¬ P) : ur P r = r + 1 := by unfold ur; rw [bz_f h, if_neg (by decide)]
noncomputable def fpl (U : Int → Prop) (n : Int) : Nat → Int → Int → Int
  | 0, _, _ => -1
  | d + 1, s, r => if ur (U s) r = n then s - n + 1 else fpl U n d (s + 1) (ur (U s) r)
theorem fpl_c {U V : Int → Prop} {n : Int} : ∀ (d : Nat) (s r : Int), (∀ x, s ≤ x → x < s + d → (U x ↔ V x)) → fpl U n d s r = fpl V n d s r := by
  intro d
  induction d with
  | zero => intro s r _; rfl
  | succ d ih =>
    intro s r h
    unfold fpl
    have e : ur (U s) r = ur (V s) r := by unfold ur; rw [bz_c (h s (by omega) (by omega))]
    rw [e, ih _ _ (fun x x1 x2 => h x (by omega) (by omega))]
theorem fpl_b {U : Int → Prop} {n : Int} (hn : 1 ≤ n) : ∀ (d : Nat) (s r : Int), 0 ≤ r → r ≤ s - 2 → fpl U n d s r = -1 ∨ (2 ≤ fpl U n d s r ∧ fpl U n d s r + n ≤ s + d) := by
  intro d
  induction d with
  | zero => intro s r _ _; exact Or.inl rfl
  | succ d ih =>
    intro s r r0 r1
    unfold fpl
    have h1 : 0 ≤ ur (U s) r ∧ ur (U s) r ≤ s - 1 := by
      by_cases e : U s
      · rw [ur_t e]; omega
      · rw [ur_f e]; omega
    by_cases e : ur (U s) r = n
    · rw [if_pos e]
      right
      omega
    · rw [if_neg e]
      rcases ih (s + 1) (ur (U s) r) (by omega) (by omega) with h | h
      · exact Or.inl h
      · right
        omega
