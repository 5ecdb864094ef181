/-! FROM THE ENTRY TO THE LOOP: both makers, then the law's loop as a function -/
theorem mm_Peq {G : mm_G} {R R' : mm_R} {N : Nat} {M : mm_M} {H : Heap} (h : ∀ o, o < N → R o = R' o) (hM : mm_P G R N M H) : mm_P G R' N M H := by
  intro k q hk
  obtain ⟨hkN, e⟩ := mm_Wi hk
  subst e
  have := hM k _ (mm_Wg hkN)
  unfold mm_en at this ⊢
  rw [h k hkN] at this
  exact this
def R_0 : mm_R := fun _ _ => none
def M_0 : mm_M := (fun _ _ => 0, fun _ _ => 0)
set_option maxRecDepth 100000 in
set_option maxHeartbeats 4000000 in
theorem ls_whole {p : Program} {e : Env} {s : State} {m : MethodId} {below : List Frame} {meth : Method} {c : Code} (l : Launch) {b L : Nat} {xs : Nat → Int32} (C0 : lw_At p s m meth c b L xs) (R1 R2 : mm_R) (M1 M2 : mm_M) (e1 : fX6_init (zR R_0 0) 1 0 (zM M_0 0) (1 + 730) (0 + 40517) = some (R1, M1)) (e2 : fX7_init (zR R1 731) 732 0 (zM M1 731) (732 + 8) (0 + 36147) = some (R2, M2)) (hR : ∀ o, o < 740 → R2 o = kR o) (e3 : fL_law_18 xs L FU M2 0 = some true) : W p l e room_1 s m #[Value.ref b] below meth c s.heap [] 0 0 (lw_Z below #[Value.ref b] s) (entryFrame m ([Value.ref b] : List Value).toArray 4) := by
  obtain ⟨G, hlo, C⟩ := ls_start C0
  obtain ⟨hx, hb, hr, hml, hown, hts, hX, hbl, hlocks, hgv⟩ := C0
  have hz : s.heap.size = mm_lo G + 0 := hlo.symm
  have hM : mm_P G R_0 0 M_0 s.heap := fun k q hk => absurd (mm_Wi hk).1 (Nat.not_lt_zero _)
  have hS : va_S (mm_A G) s.heap s.heap [] := va_S.rf
  have hl := lv_entry ([.ref b]) (n := 4) (Nat.le_of_ble_eq_true rfl)
  rw [lg_entry_eq]
  generalize (lg_sl ([.ref b]) ++ List.replicate (4 - (lg_sl ([.ref b])).length) Slot.unset).toArray = ls at hl ⊢
  have hl : lv_has ls 4 [(0, .ref b)] := hl
  refine nL_7 C hz hM hS rfl (Nat.le_of_ble_eq_true rfl) (Nat.le_of_ble_eq_true rfl) dL_law_0 (fun H hM hS hz => ?_)
  refine lv_dup hx hb dL_law_3 rfl ?_
  refine iL_9 C hz hM hS (tX6_init l G (zR R_0 0) 1 0 (zM M_0 0) (Nat.le_of_ble_eq_true rfl) R1 M1 e1) hl.1 (Nat.le_of_ble_eq_true rfl) ⟨Nat.le_of_ble_eq_true rfl, Nat.le_of_ble_eq_true rfl⟩ dL_law_4 (fun H locs hM hS hz => ?_)
  refine lv_astore_n (lv' := [(1, .ref (mm_lo G + 0)), (0, .ref b)]) hx hb dL_law_7 rfl hl (by decide) rfl (fun ls hl => ?_)
  have hM : mm_P G R1 731 M1 H := hM
  have hz : H.size = mm_lo G + 731 := hz
  refine nL_10 C hz hM hS rfl (Nat.le_of_ble_eq_true rfl) (Nat.le_of_ble_eq_true rfl) dL_law_8 (fun H hM hS hz => ?_)
  refine lv_dup hx hb dL_law_11 rfl ?_
  refine iL_12 C hz hM hS (tX7_init l G (zR R1 731) 732 0 (zM M1 731) (Nat.le_of_ble_eq_true rfl) R2 M2 e2) hl.1 (Nat.le_of_ble_eq_true rfl) ⟨Nat.le_of_ble_eq_true rfl, Nat.le_of_ble_eq_true rfl⟩ dL_law_12 (fun H locs hM hS hz => ?_)
  have hM : mm_P G R2 740 M2 H := hM
  have hM : mm_P G kR 740 M2 H := mm_Peq hR hM
  refine lv_astore_n (lv' := [(2, .ref (mm_lo G + 731)), (1, .ref (mm_lo G + 0)), (0, .ref b)]) hx hb dL_law_15 rfl hl (by decide) rfl (fun ls hl => ?_)
  refine lv_iconst (v := 0) hx hb dL_law_16 (by decide) ?_
  refine lv_istore_n (lv' := [(3, .int 0), (2, .ref (mm_lo G + 731)), (1, .ref (mm_lo G + 0)), (0, .ref b)]) hx hb dL_law_17 rfl hl (by decide) rfl (fun ls hl => ?_)
  refine W.widen (k := 600000) (n := 7302250) (Nat.le_of_ble_eq_true rfl) (Nat.le_of_ble_eq_true rfl) ?_
  exact tL_law_18 C hlo hX hbl FU _ _ _ _ _ hM hS (lv_sub hl [3, 2, 1, 0] rfl) e3
