/-! THE LAW'S START: the machine's tables, the three static arrays, the two makers -/
theorem ls_prim {args : Array Value} {s : State} {ty : FieldType} (hp : ∀ cA : ClassId, s.vm.findClass ("[" ++ ty.toString) = some cA → va_RA s cA ty) (h : (Cond.arrayClass ty).before args s = true) : ∃ cA : ClassId, ArrOfT s cA ty ∧ va_RA s cA ty := by
  obtain ⟨cA, kA, comp, h1, h2, h3⟩ := Cond.arrayClass_spec h
  exact ⟨cA, fun n z => ⟨fun k q => (by cases q), kA, h2, comp, h3⟩, hp cA h1⟩
theorem ls_ref {args : Array Value} {s : State} {C : String} (h : (Cond.arrayOver (.object C)).before args s = true) : ∃ cA : ClassId, ArrOfT s cA (.object C) ∧ va_RA s cA (.object C) := by
  obtain ⟨comp, cA, kA, h1, h2, h3, h4, h5⟩ := Cond.arrayOver_spec h
  exact ⟨cA, fun n z => ⟨fun k q => (by cases q), kA, h3, comp, h4⟩, kA, comp, h3, h4, h1, h5⟩
theorem ls_stat {args : Array Value} {s : State} (nm : String) (f : Nat → Int32) {A : Nat → Prop} (hA : ∀ a : Nat, a < s.heap.size → ¬ A a) (hl : (Cond.laysStatic "CartPitches" nm "[I").before args s = true) (hini : (Cond.initialized "CartPitches").before args s = true) (harr : (Cond.arrayOf (.static "CartPitches" nm "[I") .int).before args s = true) (hlen : (Cond.eq (.length (.static "CartPitches" nm "[I")) (.int 10)).before args s = true) (hel : ∀ j, j < 10 → (Cond.eq (.elem (.static "CartPitches" nm "[I") (.int (Int32.ofNat j))) (.int (f j))).before args s = true) : ∃ t : Nat, va_Z "CartPitches" nm "[I" (.ref t) A s s.heap ∧ va_T .int t 10 (fun j => .int (f j)) A s s.heap := by
  obtain ⟨t, h1, h2⟩ := va_Tof (N := 10) (f := fun j => .int (f j)) (A := A) (by decide) harr (va_eqt hlen) (fun j hj => va_eqt (hel j hj)) hA
  exact ⟨t, va_Zof hl hini h1 hA, h2⟩
theorem ls_known {args : Array Value} {s : State} (hts : ∀ w ∈ lw_tbl, w.before args s = true) : ∃ D : va_G, ∀ (c : Nat) (q : vw_C), vwCl[c]? = some q → u_Kn s q.1 q.2.1 q.2.2 (D.1 c) (D.2 c) := by
  have hg : ∀ w ∈ mm_good, w.before args s = true := fun w hw => hts w (List.mem_filter.mp hw).1
  obtain ⟨c0, i0, k0⟩ := u_known (C := RX0) (T := TX0) (N := 18) (n := 18) hg inX0 (hg _ (mm_in 110 (by decide +kernel) (by decide +kernel)))
  obtain ⟨c1, i1, k1⟩ := u_known (C := RX2) (T := TX2) (N := 3) (n := 3) hg inX2 (hg _ (mm_in 275 (by decide +kernel) (by decide +kernel)))
  obtain ⟨c2, i2, k2⟩ := u_known (C := RX3) (T := TX3) (N := 2) (n := 2) hg inX3 (hg _ (mm_in 295 (by decide +kernel) (by decide +kernel)))
  obtain ⟨c3, i3, k3⟩ := u_known (C := RX4) (T := TX4) (N := 4) (n := 4) hg inX4 (hg _ (mm_in 81 (by decide +kernel) (by decide +kernel)))
  obtain ⟨c4, i4, k4⟩ := u_known (C := RX5) (T := TX5) (N := 15) (n := 15) hg inX5 (hg _ (mm_in 70 (by decide +kernel) (by decide +kernel)))
  obtain ⟨c5, i5, k5⟩ := u_known (C := RX6) (T := TX6) (N := 6) (n := 6) hg inX6 (hg _ (mm_in 62 (by decide +kernel) (by decide +kernel)))
  obtain ⟨c6, i6, k6⟩ := u_known (C := RX7) (T := TX7) (N := 15) (n := 15) hg inX7 (hg _ (mm_in 718 (by decide +kernel) (by decide +kernel)))
  refine ⟨(fun k => match k with | 0 => c0 | 1 => c1 | 2 => c2 | 3 => c3 | 4 => c4 | 5 => c5 | _ => c6, fun k => match k with | 0 => i0 | 1 => i1 | 2 => i2 | 3 => i3 | 4 => i4 | 5 => i5 | _ => i6), ?_⟩
  intro k q hq
  match k, hq with
  | 0, hq => cases hq; exact k0
  | 1, hq => cases hq; exact k1
  | 2, hq => cases hq; exact k2
  | 3, hq => cases hq; exact k3
  | 4, hq => cases hq; exact k4
  | 5, hq => cases hq; exact k5
  | 6, hq => cases hq; exact k6
  | k + 7, hq => simp [vwCl] at hq
set_option maxHeartbeats 4000000 in
theorem ls_start {p : Program} {s : State} {m : MethodId} {meth : Method} {c : Code} {b L : Nat} {xs : Nat → Int32} (C0 : lw_At p s m meth c b L xs) : ∃ G : mm_G, mm_lo G = s.heap.size ∧ mm_C G p s m #[Value.ref b] meth c RL cL_law 4 (some .boolean) := by
  obtain ⟨hx, hb, hr, hml, hown, hts, hX, hbl, hlocks, hgv⟩ := C0
  have hg : ∀ w ∈ mm_good, w.before #[Value.ref b] s = true := fun w hw => hts w (List.mem_filter.mp hw).1
  obtain ⟨D, hD⟩ := ls_known hts
  obtain ⟨a0, p0, q0⟩ := ls_prim (ty := .char) (fun _ h => h) (hg _ (mm_in 308 (by decide +kernel) (by decide +kernel)))
  obtain ⟨a1, p1, q1⟩ := ls_prim (ty := .int) (fun _ h => h) (hg _ (mm_in 109 (by decide +kernel) (by decide +kernel)))
  obtain ⟨a2, p2, q2⟩ := ls_prim (ty := .boolean) (fun _ h => h) (hg _ (mm_in 769 (by decide +kernel) (by decide +kernel)))
  obtain ⟨a3, p3, q3⟩ := ls_ref (C := "CartPitches$Cart") (hts _ (List.mem_of_getElem? (i := 78) (by decide +kernel)))
  obtain ⟨a4, p4, q4⟩ := ls_ref (C := "CartPitches$Pitch") (hts _ (List.mem_of_getElem? (i := 76) (by decide +kernel)))
  obtain ⟨a5, p5, q5⟩ := ls_ref (C := "CartPitches$State") (hts _ (List.mem_of_getElem? (i := 281) (by decide +kernel)))
  have hA : ∀ a : Nat, a < s.heap.size → ¬ (fun q : Nat => s.heap.size ≤ q) a := fun a h => Nat.not_le.mpr h
  have hs := flat_of_before _ hgv
  have hini : (Cond.initialized "CartPitches").before #[Value.ref b] s = true := hg _ (mm_in 51 (by decide +kernel) (by decide +kernel))
  obtain ⟨t0, z0⟩ := ls_stat "FIRST_VALUE" mm_f0 hA (hts _ (List.mem_of_getElem? (i := 80) (by decide +kernel))) hini (hs _ (by decide +kernel)) (hs _ (by decide +kernel)) (fun j hj => match j, hj with | 0, _ => hs _ (by decide +kernel) | 1, _ => hs _ (by decide +kernel) | 2, _ => hs _ (by decide +kernel) | 3, _ => hs _ (by decide +kernel) | 4, _ => hs _ (by decide +kernel) | 5, _ => hs _ (by decide +kernel) | 6, _ => hs _ (by decide +kernel) | 7, _ => hs _ (by decide +kernel) | 8, _ => hs _ (by decide +kernel) | 9, _ => hs _ (by decide +kernel) | j + 10, h => absurd h (by omega))
  obtain ⟨t1, z1⟩ := ls_stat "LEAST_VALUE" mm_f1 hA (hts _ (List.mem_of_getElem? (i := 357) (by decide +kernel))) hini (hs _ (by decide +kernel)) (hs _ (by decide +kernel)) (fun j hj => match j, hj with | 0, _ => hs _ (by decide +kernel) | 1, _ => hs _ (by decide +kernel) | 2, _ => hs _ (by decide +kernel) | 3, _ => hs _ (by decide +kernel) | 4, _ => hs _ (by decide +kernel) | 5, _ => hs _ (by decide +kernel) | 6, _ => hs _ (by decide +kernel) | 7, _ => hs _ (by decide +kernel) | 8, _ => hs _ (by decide +kernel) | 9, _ => hs _ (by decide +kernel) | j + 10, h => absurd h (by omega))
  obtain ⟨t2, z2⟩ := ls_stat "MOST_VALUE" mm_f2 hA (hts _ (List.mem_of_getElem? (i := 359) (by decide +kernel))) hini (hs _ (by decide +kernel)) (hs _ (by decide +kernel)) (fun j hj => match j, hj with | 0, _ => hs _ (by decide +kernel) | 1, _ => hs _ (by decide +kernel) | 2, _ => hs _ (by decide +kernel) | 3, _ => hs _ (by decide +kernel) | 4, _ => hs _ (by decide +kernel) | 5, _ => hs _ (by decide +kernel) | 6, _ => hs _ (by decide +kernel) | 7, _ => hs _ (by decide +kernel) | 8, _ => hs _ (by decide +kernel) | 9, _ => hs _ (by decide +kernel) | j + 10, h => absurd h (by omega))
  refine ⟨(D, fun k => match k with | 0 => a0 | 1 => a1 | 2 => a2 | 3 => a3 | 4 => a4 | _ => a5, fun k => match k with | 0 => s.heap.size | 1 => t0 | 2 => t1 | _ => t2), rfl, hx, hb, hr, hg, hown, hml, hlocks, ⟨⟨hD, ?_⟩, ⟨fun own i r n d h hw => va_Nw.of rfl (hts _ hw), fun own i y h hw => va_Nw.of rfl (hts _ hw), fun C hw => va_AO.of (hts _ hw)⟩⟩, ⟨z0, z1, z2⟩, Nat.le_refl _⟩
  intro k q hq
  match k, hq with
  | 0, hq => cases hq; exact ⟨p0, q0⟩
  | 1, hq => cases hq; exact ⟨p1, q1⟩
  | 2, hq => cases hq; exact ⟨p2, q2⟩
  | 3, hq => cases hq; exact ⟨p3, q3⟩
  | 4, hq => cases hq; exact ⟨p4, q4⟩
  | 5, hq => cases hq; exact ⟨p5, q5⟩
  | k + 6, hq => simp [mm_tys] at hq
