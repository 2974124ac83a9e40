/-- all cells but these are as they were -/
def Fr (l : List Nat) (M M' : iM) : Prop := ∀ c, c ∉ l → M' c = M c
theorem Fr_r (l : List Nat) (M : iM) : Fr l M M := fun _ _ => rfl
theorem Fr_up {l : List Nat} {M M' : iM} {c : Nat} {f : Nat → Int} (h : Fr l M M') (hc : c ∈ l) : Fr l M (va_up M' c f) := by
  intro d hd
  rw [up_n (show d ≠ c from fun e => hd (by rw [e]; exact hc))]
  exact h d hd
theorem Fr_st {l : List Nat} {M M' : iM} {c k : Nat} {v : Int} (h : Fr l M M') (hc : c ∈ l) : Fr l M (i_st M' c k v) := Fr_up h hc
theorem Fr_cp {l : List Nat} {M M' : iM} {a sp c dp n : Nat} (h : Fr l M M') (hc : c ∈ l) : Fr l M (i_cp M' a sp c dp n) := Fr_up h hc
theorem Fr_t {l l' : List Nat} {M M' M'' : iM} (h : Fr l M M') (h' : Fr l' M' M'') (hl : ∀ c, c ∈ l' → c ∈ l) : Fr l M M'' := fun c hc => (h' c (fun q => hc (hl c q))).trans (h c hc)
noncomputable def bz (p : Prop) : Int := @ite _ p (Classical.propDecidable p) 1 0
theorem bz_t {p : Prop} (h : p) : bz p = 1 := by unfold bz; rw [if_pos h]
theorem bz_f {p : Prop} (h : ¬ p) : bz p = 0 := by unfold bz; rw [if_neg h]
theorem bz_c {p q : Prop} (h : p ↔ q) : bz p = bz q := by rw [propext h]
theorem c_fetchF {b : Bool} {M : iM} {s t n fr : Nat} {rs : List (Option Nat)} (ht : z_at (SH b) t = some (1, n, rs)) (ht2 : t ≠ 2) (ht4 : t ≠ 4) (hs : s < 48) (hfr : fr + 11 ≤ n) (hn : n < 1000) (hf : by8 (M 2) 720) (hm : ∀ x : Nat, x < 256 → M 3 x = hN 8 (x : Int)) :
    ∃ M', irun none zp_45 0 (i_ent [iP 1, iI (s : Int), iP t, iI (fr : Int)] 5) [] (SH b) M 0 0 (some (rk (M 2) s), SH b, M') ∧ Fr [4, t] M M' ∧ (rk (M 2) s = 1 → ∀ k, k < 11 → M' t (fr + k) = rd (M 2) s k) := by
  obtain ⟨J, h⟩ := c_fetch ht ht2 ht4 hs hfr hn hf hm
  refine ⟨_, h, Fr_up (Fr_up (Fr_r _ _) (by simp)) (by simp), fun h1 k hk => ?_⟩
  rw [up_s, if_pos ⟨h1, by omega, by omega⟩, show fr + k - fr = k by omega]
theorem c_fetchRunF {b : Bool} {M : iM} {first cnt : Nat} (hs : first + cnt ≤ 48) (hf : by8 (M 2) 720) (hm : ∀ x : Nat, x < 256 → M 3 x = hN 8 (x : Int)) :
    ∃ M', irun none zp_46 0 (i_ent [iP 1, iI (first : Int), iI (cnt : Int), iP 34] 5) [] (SH b) M 0 0 (some (lkN (M 2) first cnt), SH b, M') ∧ Fr [4, 34] M M' ∧ (lkN (M 2) first cnt = 1 → ∀ j, j < 11 * cnt → M' 34 j = Rd (M 2) first j) := by
  obtain ⟨J, T, h, h2, -⟩ := c_fetchRun (b := b) (M := M) (first := first) (cnt := cnt) (t := 34) (n := 528) (rs := []) rfl (by decide) (by decide) (by decide) hs (by omega) (by decide) hf hm
  exact ⟨_, h, Fr_up (Fr_up (Fr_r _ _) (by simp)) (by simp), fun h1 k hk => h2 h1 k hk⟩
theorem d_readF {b : Bool} {M : iM} {s : Nat} (hs : s < 48) (hf : by8 (M 41) 720) : ∃ M', irun none zp_115 0 (i_ent [iP 40, iI (s : Int)] 4) [] (SH b) M 0 0 (some (rk (M 41) s), SH b, M') ∧ Fr [51] M M' ∧ (rk (M 41) s = 1 → ∀ k, k < 11 → M' 51 k = rd (M 41) s k) := by
  obtain ⟨S, h, h2⟩ := d_read (b := b) (M := M) hs hf
  exact ⟨_, h, Fr_up (Fr_r _ _) (by simp), h2⟩
theorem d_loadF {b : Bool} {M : iM} {first cnt : Nat} (hs : first + cnt ≤ 48) (hn : 11 * cnt ≤ 520) (hf : by8 (M 41) 720) :
    ∃ M', irun none zp_138 0 (i_ent [iP 40, iI (first : Int), iI (cnt : Int)] 5) [] (SH b) M 0 0 (some (lkN (M 41) first cnt), SH b, M') ∧ Fr [51, 60] M M' ∧ (lkN (M 41) first cnt = 1 → ∀ j, j < 11 * cnt → M' 60 j = Rd (M 41) first j) := by
  obtain ⟨S, T, h, h2⟩ := d_load (b := b) (M := M) hs hn hf
  exact ⟨_, h, Fr_up (Fr_up (Fr_r _ _) (by simp)) (by simp), h2⟩
def ls (W : Nat → Int) (k : Nat) (a v : Int) : Prop := W (7 * k) < a ∨ (W (7 * k) = a ∧ W (7 * k + 1) < v)
def en (W : Nat → Int) (k : Nat) : Prop := W (7 * k) < 8 ∧ 0 < W (7 * k + 1) ∧ W (7 * k + 5) ≤ 24 ∧ (2 ≤ W (7 * k + 2) ∧ 1 ≤ W (7 * k + 3) ∧ W (7 * k + 2) + W (7 * k + 3) ≤ 48) ∧ (k = 0 ∨ ls W (k - 1) (W (7 * k)) (W (7 * k + 1)))
/-- the bytes of an index are sound -/
def es (g : Nat → Int) (room : Int) : Prop := 1 ≤ g 0 ∧ g 0 ≤ 10 ∧ 1 + 7 * g 0 ≤ room ∧ ∀ k : Nat, (k : Int) < g 0 → en (fun j => g (1 + j)) k
def cn (f : Nat → Int) (s : Nat) : Int := if rd f s 4 = 0 then 0 else Rd f (rd f s 3).toNat 0
def tw (f : Nat → Int) (s j : Nat) : Int := Rd f (rd f s 3).toNat (1 + j)
def tk (f : Nat → Int) (s : Nat) : Prop := rk f s = 1 ∧ (rd f s 0 = 83 ∧ rd f s 1 = 65) ∧ (rd f s 4 = 0 ∨ (rd f s 4 ≠ 0 ∧ (2 ≤ rd f s 3 ∧ rd f s 3 + rd f s 4 ≤ 48) ∧ lkN f (rd f s 3).toNat (rd f s 4).toNat = 1 ∧ es (Rd f (rd f s 3).toNat) (11 * rd f s 4)))
theorem en_c {V W : Nat → Int} {k : Nat} (h : ∀ j, j < 7 * k + 7 → V j = W j) : en V k ↔ en W k := by
  unfold en ls
  rw [h (7 * k) (by omega), h (7 * k + 1) (by omega), h (7 * k + 2) (by omega), h (7 * k + 3) (by omega), h (7 * k + 5) (by omega), h (7 * (k - 1)) (by omega), h (7 * (k - 1) + 1) (by omega)]
theorem es_c {g h : Nat → Int} {room : Int} (e : ∀ j : Nat, (j : Int) < room → g j = h j) (hr : 0 < room) : es g room ↔ es h room := by
  unfold es
  rw [e 0 (by omega)]
  constructor
  · rintro ⟨a1, a2, a3, a4⟩
    exact ⟨a1, a2, a3, fun k hk => (en_c (fun j hj => e (1 + j) (by omega))).mp (a4 k hk)⟩
  · rintro ⟨a1, a2, a3, a4⟩
    exact ⟨a1, a2, a3, fun k hk => (en_c (fun j hj => e (1 + j) (by omega))).mpr (a4 k hk)⟩
set_option maxRecDepth 100000 in
theorem c_areFree {sh : List zS} {M : iM} {a c : Int} (ha : 0 ≤ a ∧ a < 256) (hc : 0 ≤ c ∧ c < 256) : irun none zp_31 0 (i_ent [iI a, iI c] 2) [] sh M 0 0 (some (bz (2 ≤ a ∧ 1 ≤ c ∧ a + c ≤ 48)), sh, M) := by
  by_cases c1 : a < 2
  · rw [bz_f (by omega)]
    refine i_iload_n rfl rfl ?_
    refine i_iconst (n := 2) rfl (by unfold iR; omega) ?_
    refine i_icmp_lt_t rfl (by first | omega | assumption) ?_
    refine i_iconst (n := 0) rfl (by unfold iR; omega) ?_
    -- at 23
    exact i_zreturn rfl rfl (by first | omega | assumption)
  · by_cases c2 : c < 1
    · rw [bz_f (by omega)]
      refine i_iload_n rfl rfl ?_
      refine i_iconst (n := 2) rfl (by unfold iR; omega) ?_
      refine i_icmp_lt_f rfl (by first | omega | assumption) ?_
      refine i_iload_n rfl rfl ?_
      refine i_iconst (n := 1) rfl (by unfold iR; omega) ?_
      refine i_icmp_lt_t rfl (by first | omega | assumption) ?_
      refine i_iconst (n := 0) rfl (by unfold iR; omega) ?_
      -- at 23
      exact i_zreturn rfl rfl (by first | omega | assumption)
    · by_cases c3 : 48 < a + c
      · rw [bz_f (by omega)]
        refine i_iload_n rfl rfl ?_
        refine i_iconst (n := 2) rfl (by unfold iR; omega) ?_
        refine i_icmp_lt_f rfl (by first | omega | assumption) ?_
        refine i_iload_n rfl rfl ?_
        refine i_iconst (n := 1) rfl (by unfold iR; omega) ?_
        refine i_icmp_lt_f rfl (by first | omega | assumption) ?_
        refine i_iload_n rfl rfl ?_
        refine i_iload_n rfl rfl ?_
        refine i_iadd rfl (by unfold iR; omega) ?_
        refine i_bipush (n := 48) rfl (by unfold iR; omega) (by decide) ?_
        refine i_icmp_gt_t rfl (by first | omega | assumption) ?_
        refine i_iconst (n := 0) rfl (by unfold iR; omega) ?_
        -- at 23
        exact i_zreturn rfl rfl (by first | omega | assumption)
      · rw [bz_t (by omega)]
        refine i_iload_n rfl rfl ?_
        refine i_iconst (n := 2) rfl (by unfold iR; omega) ?_
        refine i_icmp_lt_f rfl (by first | omega | assumption) ?_
        refine i_iload_n rfl rfl ?_
        refine i_iconst (n := 1) rfl (by unfold iR; omega) ?_
        refine i_icmp_lt_f rfl (by first | omega | assumption) ?_
        refine i_iload_n rfl rfl ?_
        refine i_iload_n rfl rfl ?_
        refine i_iadd rfl (by unfold iR; omega) ?_
        refine i_bipush (n := 48) rfl (by unfold iR; omega) (by decide) ?_
        refine i_icmp_gt_f rfl (by first | omega | assumption) ?_
        refine i_iconst (n := 1) rfl (by unfold iR; omega) ?_
        refine i_goto rfl ?_
        -- at 23
        exact i_zreturn rfl rfl (by first | omega | assumption)
set_option maxRecDepth 100000 in
theorem c_iclear {b : Bool} {M : iM} {p : Nat} (hp : p = 36 ∨ p = 38) : ∃ M', irun none zp_53 0 (i_ent [iP p] 1) [] (SH b) M 0 0 (none, SH b, M') ∧ Fr [p] M M' ∧ M' p 1 = 0 ∧ M' p 2 = 0 ∧ M' p 3 = 0 ∧ M' p 4 = 0 := by
  refine ⟨i_st (i_st (i_st (i_st M p 1 0) p 2 0) p 3 0) p 4 0, ?_, Fr_st (Fr_st (Fr_st (Fr_st (Fr_r _ _) (by simp)) (by simp)) (by simp)) (by simp), ?_⟩
  · rcases hp with rfl | rfl
    · refine i_aload_n rfl rfl ?_
      refine i_iconst (n := 0) rfl (by unfold iR; omega) ?_
      refine i_puti rfl rfl rfl rfl ?_
      refine i_aload_n rfl rfl ?_
      refine i_iconst (n := 0) rfl (by unfold iR; omega) ?_
      refine i_puti rfl rfl rfl rfl ?_
      refine i_aload_n rfl rfl ?_
      refine i_iconst (n := 0) rfl (by unfold iR; omega) ?_
      refine i_puti rfl rfl rfl rfl ?_
      refine i_aload_n rfl rfl ?_
      refine i_iconst (n := 0) rfl (by unfold iR; omega) ?_
      refine i_puti rfl rfl rfl rfl ?_
      -- at 20
      exact i_vreturn rfl rfl
    · refine i_aload_n rfl rfl ?_
      refine i_iconst (n := 0) rfl (by unfold iR; omega) ?_
      refine i_puti rfl rfl rfl rfl ?_
      refine i_aload_n rfl rfl ?_
      refine i_iconst (n := 0) rfl (by unfold iR; omega) ?_
      refine i_puti rfl rfl rfl rfl ?_
      refine i_aload_n rfl rfl ?_
      refine i_iconst (n := 0) rfl (by unfold iR; omega) ?_
      refine i_puti rfl rfl rfl rfl ?_
      refine i_aload_n rfl rfl ?_
      refine i_iconst (n := 0) rfl (by unfold iR; omega) ?_
      refine i_puti rfl rfl rfl rfl ?_
      -- at 20
      exact i_vreturn rfl rfl
  · simp [i_st, va_up]
set_option maxRecDepth 100000 in
theorem c_ihead {b : Bool} {M : iM} {p : Nat} (hp : p = 36 ∨ p = 38) : ∃ M', irun none zp_63 0 (i_ent [iP p, iP 34] 2) [] (SH b) M 0 0 (some (bz (M 34 0 = 83 ∧ M 34 1 = 65)), SH b, M') ∧ Fr [p] M M' ∧ M' p 1 = M p 1 ∧ M' p 2 = M 34 2 ∧ M' p 3 = M 34 3 ∧ M' p 4 = M 34 4 := by
  refine ⟨i_st (i_st (i_st M p 2 (M 34 2)) p 3 (M 34 3)) p 4 (M 34 4), ?_, Fr_st (Fr_st (Fr_st (Fr_r _ _) (by simp)) (by simp)) (by simp), ?_⟩
  · by_cases c1 : M 34 0 = 83
    · by_cases c2 : M 34 1 = 65
      · rw [bz_t ⟨c1, c2⟩]
        rcases hp with rfl | rfl
        · refine i_aload_n rfl rfl ?_
          refine i_aload_n rfl rfl ?_
          refine i_iconst (n := 2) rfl (by unfold iR; omega) ?_
          refine i_iald rfl rfl (by first | omega | assumption) (by first | omega | assumption) (by decide) ?_
          refine i_puti rfl rfl rfl rfl ?_
          refine i_aload_n rfl rfl ?_
          refine i_aload_n rfl rfl ?_
          refine i_iconst (n := 3) rfl (by unfold iR; omega) ?_
          refine i_iald rfl rfl (by first | omega | assumption) (by first | omega | assumption) (by decide) ?_
          refine i_puti rfl rfl rfl rfl ?_
          refine i_aload_n rfl rfl ?_
          refine i_aload_n rfl rfl ?_
          refine i_iconst (n := 4) rfl (by unfold iR; omega) ?_
          refine i_iald rfl rfl (by first | omega | assumption) (by first | omega | assumption) (by decide) ?_
          refine i_puti rfl rfl rfl rfl ?_
          refine i_aload_n rfl rfl ?_
          refine i_iconst (n := 0) rfl (by unfold iR; omega) ?_
          refine i_iald rfl rfl (by first | omega | assumption) (by first | omega | assumption) (by decide) ?_
          -- at 24
          show irun none zp_63 24 _ (iI (M 34 0) :: _) _ _ 0 0 _
          refine i_bipush (n := 83) rfl (by unfold iR; omega) (by decide) ?_
          refine i_icmp_ne_f rfl (by first | omega | assumption) ?_
          refine i_aload_n rfl rfl ?_
          refine i_iconst (n := 1) rfl (by unfold iR; omega) ?_
          refine i_iald rfl rfl (by first | omega | assumption) (by first | omega | assumption) (by decide) ?_
          -- at 32
          show irun none zp_63 32 _ (iI (M 34 1) :: _) _ _ 0 0 _
          refine i_bipush (n := 65) rfl (by unfold iR; omega) (by decide) ?_
          refine i_icmp_ne_f rfl (by first | omega | assumption) ?_
          refine i_iconst (n := 1) rfl (by unfold iR; omega) ?_
          refine i_goto rfl ?_
          -- at 42
          exact i_zreturn rfl rfl (by first | omega | assumption)
        · refine i_aload_n rfl rfl ?_
          refine i_aload_n rfl rfl ?_
          refine i_iconst (n := 2) rfl (by unfold iR; omega) ?_
          refine i_iald rfl rfl (by first | omega | assumption) (by first | omega | assumption) (by decide) ?_
          refine i_puti rfl rfl rfl rfl ?_
          refine i_aload_n rfl rfl ?_
          refine i_aload_n rfl rfl ?_
          refine i_iconst (n := 3) rfl (by unfold iR; omega) ?_
          refine i_iald rfl rfl (by first | omega | assumption) (by first | omega | assumption) (by decide) ?_
          refine i_puti rfl rfl rfl rfl ?_
          refine i_aload_n rfl rfl ?_
          refine i_aload_n rfl rfl ?_
          refine i_iconst (n := 4) rfl (by unfold iR; omega) ?_
          refine i_iald rfl rfl (by first | omega | assumption) (by first | omega | assumption) (by decide) ?_
          refine i_puti rfl rfl rfl rfl ?_
          refine i_aload_n rfl rfl ?_
          refine i_iconst (n := 0) rfl (by unfold iR; omega) ?_
          refine i_iald rfl rfl (by first | omega | assumption) (by first | omega | assumption) (by decide) ?_
          -- at 24
          show irun none zp_63 24 _ (iI (M 34 0) :: _) _ _ 0 0 _
          refine i_bipush (n := 83) rfl (by unfold iR; omega) (by decide) ?_
          refine i_icmp_ne_f rfl (by first | omega | assumption) ?_
          refine i_aload_n rfl rfl ?_
          refine i_iconst (n := 1) rfl (by unfold iR; omega) ?_
          refine i_iald rfl rfl (by first | omega | assumption) (by first | omega | assumption) (by decide) ?_
          -- at 32
          show irun none zp_63 32 _ (iI (M 34 1) :: _) _ _ 0 0 _
          refine i_bipush (n := 65) rfl (by unfold iR; omega) (by decide) ?_
          refine i_icmp_ne_f rfl (by first | omega | assumption) ?_
          refine i_iconst (n := 1) rfl (by unfold iR; omega) ?_
          refine i_goto rfl ?_
          -- at 42
          exact i_zreturn rfl rfl (by first | omega | assumption)
      · rw [bz_f (by omega)]
        rcases hp with rfl | rfl
        · refine i_aload_n rfl rfl ?_
          refine i_aload_n rfl rfl ?_
          refine i_iconst (n := 2) rfl (by unfold iR; omega) ?_
          refine i_iald rfl rfl (by first | omega | assumption) (by first | omega | assumption) (by decide) ?_
          refine i_puti rfl rfl rfl rfl ?_
          refine i_aload_n rfl rfl ?_
          refine i_aload_n rfl rfl ?_
          refine i_iconst (n := 3) rfl (by unfold iR; omega) ?_
          refine i_iald rfl rfl (by first | omega | assumption) (by first | omega | assumption) (by decide) ?_
          refine i_puti rfl rfl rfl rfl ?_
          refine i_aload_n rfl rfl ?_
          refine i_aload_n rfl rfl ?_
          refine i_iconst (n := 4) rfl (by unfold iR; omega) ?_
          refine i_iald rfl rfl (by first | omega | assumption) (by first | omega | assumption) (by decide) ?_
          refine i_puti rfl rfl rfl rfl ?_
          refine i_aload_n rfl rfl ?_
          refine i_iconst (n := 0) rfl (by unfold iR; omega) ?_
          refine i_iald rfl rfl (by first | omega | assumption) (by first | omega | assumption) (by decide) ?_
          -- at 24
          show irun none zp_63 24 _ (iI (M 34 0) :: _) _ _ 0 0 _
          refine i_bipush (n := 83) rfl (by unfold iR; omega) (by decide) ?_
          refine i_icmp_ne_f rfl (by first | omega | assumption) ?_
          refine i_aload_n rfl rfl ?_
          refine i_iconst (n := 1) rfl (by unfold iR; omega) ?_
          refine i_iald rfl rfl (by first | omega | assumption) (by first | omega | assumption) (by decide) ?_
          -- at 32
          show irun none zp_63 32 _ (iI (M 34 1) :: _) _ _ 0 0 _
          refine i_bipush (n := 65) rfl (by unfold iR; omega) (by decide) ?_
          refine i_icmp_ne_t rfl (by first | omega | assumption) ?_
          refine i_iconst (n := 0) rfl (by unfold iR; omega) ?_
          -- at 42
          exact i_zreturn rfl rfl (by first | omega | assumption)
        · refine i_aload_n rfl rfl ?_
          refine i_aload_n rfl rfl ?_
          refine i_iconst (n := 2) rfl (by unfold iR; omega) ?_
          refine i_iald rfl rfl (by first | omega | assumption) (by first | omega | assumption) (by decide) ?_
          refine i_puti rfl rfl rfl rfl ?_
          refine i_aload_n rfl rfl ?_
          refine i_aload_n rfl rfl ?_
          refine i_iconst (n := 3) rfl (by unfold iR; omega) ?_
          refine i_iald rfl rfl (by first | omega | assumption) (by first | omega | assumption) (by decide) ?_
          refine i_puti rfl rfl rfl rfl ?_
          refine i_aload_n rfl rfl ?_
          refine i_aload_n rfl rfl ?_
          refine i_iconst (n := 4) rfl (by unfold iR; omega) ?_
          refine i_iald rfl rfl (by first | omega | assumption) (by first | omega | assumption) (by decide) ?_
          refine i_puti rfl rfl rfl rfl ?_
          refine i_aload_n rfl rfl ?_
          refine i_iconst (n := 0) rfl (by unfold iR; omega) ?_
          refine i_iald rfl rfl (by first | omega | assumption) (by first | omega | assumption) (by decide) ?_
          -- at 24
          show irun none zp_63 24 _ (iI (M 34 0) :: _) _ _ 0 0 _
          refine i_bipush (n := 83) rfl (by unfold iR; omega) (by decide) ?_
          refine i_icmp_ne_f rfl (by first | omega | assumption) ?_
          refine i_aload_n rfl rfl ?_
          refine i_iconst (n := 1) rfl (by unfold iR; omega) ?_
          refine i_iald rfl rfl (by first | omega | assumption) (by first | omega | assumption) (by decide) ?_
          -- at 32
          show irun none zp_63 32 _ (iI (M 34 1) :: _) _ _ 0 0 _
          refine i_bipush (n := 65) rfl (by unfold iR; omega) (by decide) ?_
          refine i_icmp_ne_t rfl (by first | omega | assumption) ?_
          refine i_iconst (n := 0) rfl (by unfold iR; omega) ?_
          -- at 42
          exact i_zreturn rfl rfl (by first | omega | assumption)
    · rw [bz_f (by omega)]
      rcases hp with rfl | rfl
      · refine i_aload_n rfl rfl ?_
        refine i_aload_n rfl rfl ?_
        refine i_iconst (n := 2) rfl (by unfold iR; omega) ?_
        refine i_iald rfl rfl (by first | omega | assumption) (by first | omega | assumption) (by decide) ?_
        refine i_puti rfl rfl rfl rfl ?_
        refine i_aload_n rfl rfl ?_
        refine i_aload_n rfl rfl ?_
        refine i_iconst (n := 3) rfl (by unfold iR; omega) ?_
        refine i_iald rfl rfl (by first | omega | assumption) (by first | omega | assumption) (by decide) ?_
        refine i_puti rfl rfl rfl rfl ?_
        refine i_aload_n rfl rfl ?_
        refine i_aload_n rfl rfl ?_
        refine i_iconst (n := 4) rfl (by unfold iR; omega) ?_
        refine i_iald rfl rfl (by first | omega | assumption) (by first | omega | assumption) (by decide) ?_
        refine i_puti rfl rfl rfl rfl ?_
        refine i_aload_n rfl rfl ?_
        refine i_iconst (n := 0) rfl (by unfold iR; omega) ?_
        refine i_iald rfl rfl (by first | omega | assumption) (by first | omega | assumption) (by decide) ?_
        -- at 24
        show irun none zp_63 24 _ (iI (M 34 0) :: _) _ _ 0 0 _
        refine i_bipush (n := 83) rfl (by unfold iR; omega) (by decide) ?_
        refine i_icmp_ne_t rfl (by first | omega | assumption) ?_
        refine i_iconst (n := 0) rfl (by unfold iR; omega) ?_
        -- at 42
        exact i_zreturn rfl rfl (by first | omega | assumption)
      · refine i_aload_n rfl rfl ?_
        refine i_aload_n rfl rfl ?_
        refine i_iconst (n := 2) rfl (by unfold iR; omega) ?_
        refine i_iald rfl rfl (by first | omega | assumption) (by first | omega | assumption) (by decide) ?_
        refine i_puti rfl rfl rfl rfl ?_
        refine i_aload_n rfl rfl ?_
        refine i_aload_n rfl rfl ?_
        refine i_iconst (n := 3) rfl (by unfold iR; omega) ?_
        refine i_iald rfl rfl (by first | omega | assumption) (by first | omega | assumption) (by decide) ?_
        refine i_puti rfl rfl rfl rfl ?_
        refine i_aload_n rfl rfl ?_
        refine i_aload_n rfl rfl ?_
        refine i_iconst (n := 4) rfl (by unfold iR; omega) ?_
        refine i_iald rfl rfl (by first | omega | assumption) (by first | omega | assumption) (by decide) ?_
        refine i_puti rfl rfl rfl rfl ?_
        refine i_aload_n rfl rfl ?_
        refine i_iconst (n := 0) rfl (by unfold iR; omega) ?_
        refine i_iald rfl rfl (by first | omega | assumption) (by first | omega | assumption) (by decide) ?_
        -- at 24
        show irun none zp_63 24 _ (iI (M 34 0) :: _) _ _ 0 0 _
        refine i_bipush (n := 83) rfl (by unfold iR; omega) (by decide) ?_
        refine i_icmp_ne_t rfl (by first | omega | assumption) ?_
        refine i_iconst (n := 0) rfl (by unfold iR; omega) ?_
        -- at 42
        exact i_zreturn rfl rfl (by first | omega | assumption)
  · simp [i_st, va_up]
