theorem z_known {s : State} {args : Array Value} (hts : ∀ w ∈ zWS, w.before args s = true) : ∃ D : va_G, ∀ (c : Nat) (q : vw_C), zCl[c]? = some q → u_Kn s q.1 q.2.1 q.2.2 (D.1 c) (D.2 c) := by
  have h : ∀ c : Nat, ∃ z : ClassId × (Nat → Nat), ∀ q : vw_C, zCl[c]? = some q → u_Kn s q.1 q.2.1 q.2.2 z.1 z.2 := by
    intro c
    cases hk : z_at zCT c with
    | none =>
      refine ⟨(0, fun _ => 0), fun q hq => ?_⟩
      have h1 := (List.getElem?_eq_some_iff.mp hq).1
      rw [z_at_eq, List.getElem?_eq_none_iff] at hk
      have e1 : zCl.length = 11 := by decide +kernel
      have e2 : zCT.length = 11 := by decide +kernel
      omega
    | some kd =>
      obtain ⟨C, T, ty, hc1, hin, -, -, -, hinst, -⟩ := z_hC c kd hk
      obtain ⟨cC, iS, hu⟩ := u_known hts hin (hts _ hinst)
      refine ⟨(cC, iS), fun q hq => ?_⟩
      obtain rfl := Option.some.inj (hc1.symm.trans hq)
      exact hu
  exact ⟨(fun c => (Classical.choose (h c)).1, fun c => (Classical.choose (h c)).2), fun c => Classical.choose_spec (h c)⟩
theorem z_arrs {s : State} {args : Array Value} (hts : ∀ w ∈ zWS, w.before args s = true) (hN : z_N s) : ∃ cA : Nat → ClassId, ∀ (k : Nat) (q : ClassId × FieldType), (z_ty cA)[k]? = some q → ArrOfT s q.1 q.2 ∧ va_RA s q.1 q.2 := by
  obtain ⟨c0, k0, p0, a1, a2, a3⟩ := Cond.arrayClass_spec (hts _ z_arrI)
  obtain ⟨c1, k1, p1, b1, b2, b3⟩ := Cond.arrayClass_spec (hts _ z_arrZ)
  obtain ⟨comp, c2, k2, d1, d2, d3, d4, d5⟩ := Cond.arrayOver_spec hN.2.2.2.2
  refine ⟨fun k => match k with
    | 0 => c0
    | 1 => c1
    | _ => c2, fun k q hq => ?_⟩
  match k, hq with
  | 0, hq =>
    cases hq
    exact ⟨fun n z => ⟨fun k h => (by cases h), k0, a2, p0, a3⟩, a1⟩
  | 1, hq =>
    cases hq
    exact ⟨fun n z => ⟨fun k h => (by cases h), k1, b2, p1, b3⟩, b1⟩
  | 2, hq =>
    cases hq
    exact ⟨fun n z => ⟨fun k h => (by cases h), k2, d3, comp, d4⟩, k2, comp, d3, d4, d1, d5⟩
  | k + 3, hq => cases hq
/-- the claim's walk out of a run of the abstract machine over the law -/
theorem z_start {μ : Type} {gt : μ → Nat → Nat → Int32} {st : μ → Nat → Nat → Int32 → μ} {nw : μ → Nat → μ} {cp : μ → Nat → Nat → Nat → Nat → Nat → μ} (Lw : z_laws gt st nw cp) {p : Program} {e : Env} {s : State} {m : MethodId} {below : List Frame} {meth : Method} {c : Code} (l : Launch) {b L : Nat} {xs : Nat → Int32} (C0 : lw_At p s m meth c b L xs) {m0 m1 : μ} {sh1 : List zS}
    (hrun : z_run gt st nw cp (some (L, xs)) zp_165 0 (z_ent [.ref 1000000] 4) [] [] m0 0 0 (some (.int 1), sh1, m1)) : W p l e room_1 s m #[Value.ref b] below meth c s.heap [] 0 0 (lw_Z below #[Value.ref b] s) (entryFrame m ([Value.ref b] : List Value).toArray 4) := by
  obtain ⟨hx, hb, hr, hml, hown, hts, hX, hbl, hlocks, -⟩ := C0
  obtain ⟨n, hrun⟩ := hrun
  have htz : ∀ w ∈ zWS, w.before #[Value.ref b] s = true := fun w hw => hts w (List.mem_filter.mp hw).1
  have hN := z_N0 hts
  obtain ⟨D, hD⟩ := z_known htz
  obtain ⟨cA, hcA⟩ := z_arrs htz hN
  rw [lg_entry_eq]
  have h0 := z_ent_Loc [.ref 1000000] (fun i => if i = 1000000 then b else 0) (n := 4) (by decide)
  refine z_sound Lw z_hC z_hCast z_good_ok z_hf_ok z_hMeth n (some (L, xs)) zp_165 0 (z_ent [.ref 1000000] 4) [] [] m0 0 0 (some (.int 1)) sh1 m1 hrun z_bd_law p l e room_1 s m #[Value.ref b] below meth c s.heap s.heap [] _ D cA (fun q => s.heap.size ≤ q) (fun i => if i = 1000000 then b else 0) _
    ⟨hx, hb, hml, hown, htz, hN, fun q => absurd q (by decide +kernel)⟩ ⟨hD, hcA⟩ (fun _ h => h) (by decide +kernel) ?_ (by decide +kernel) h0 ⟨?_, ?_, va_S.rf⟩ ?_
  · intro L' xs' hq
    cases hq
    exact ⟨hX, hbl, Nat.not_le.mpr hbl⟩
  · intro k q hq
    simp [z_W] at hq
  · exact ⟨fun i j q1 q2 h1 => by simp [z_W] at h1, fun k q hq => by simp [z_W] at hq⟩
  · intro pc A' ls H locs kc ks a1 a2 a3 a4 a5 a6
    refine ⟨fun v hv hdg _ => ?_, fun hv => by cases hv⟩
    cases hv
    exact va_forget (fun q hq => a4.2.2.2.2 q hq) (W.widen a5 a6 (lw_ret hx hb hr hlocks hdg))
/-- the memory as a function -/
abbrev zM : Type := Nat → Nat → Int32
def f_gt (m : zM) : Nat → Nat → Int32 := m
def f_st (m : zM) (p k : Nat) (v : Int32) : zM := va_up m p (upd (m p) k v)
def f_nw (m : zM) (p : Nat) : zM := va_up m p (fun _ => 0)
def f_cp (m : zM) (a sp b dp n : Nat) : zM := va_up m b (va_cpy (m a) (m b) sp dp n)
theorem z_lawsF : z_laws f_gt f_st f_nw f_cp := ⟨fun _ _ _ _ => rfl, fun _ _ => rfl, fun _ _ _ _ _ _ => rfl⟩
