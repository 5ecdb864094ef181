/-! p32: FROM THE ENTRY TO THE LAW'S FIRST CALL -/
theorem mm_Peq {G : mm_G} {R R' : mm_R} {N : Nat} {M : mm_M} {H : Heap} (h : ∀ o, o < N → R o = R' o) (hM : mm_P G R N M H) : mm_P G R' N M H := by
  refine ⟨fun k q hk => ?_, hM.2⟩
  obtain ⟨hkN, e⟩ := mm_Wi hk
  subst e
  have := hM.1 k _ (mm_Wg hkN)
  unfold mm_en at this ⊢
  rw [h k hkN] at this
  exact this
def R_0 : mm_R := fun _ _ => none
def M_0 : mm_M := (fun _ _ => 0, fun _ _ => 0)
set_option maxRecDepth 100000 in
set_option maxHeartbeats 4000000 in
theorem ls_whole {p : Program} {e : Env} {s : State} {m : MethodId} {below : List Frame} {meth : Method} {c : Code} (l : Launch) {b L : Nat} {xs : Nat → Int32} (C0 : lw_At p s m meth c b L xs) (R1 : mm_R) (M1 : mm_M) (e1 : fX6_init (zR R_0 0) 1 0 (zM M_0 0) (1 + 730) (0 + 40517) = some (R1, M1)) (hR : ∀ o, o < 731 → R1 o = kR o) (e3 : fL_law_8 xs L M1 731 40523 = some true) : W p l e room_1 s m #[Value.ref b] below meth c s.heap [] 0 0 (lw_Z below #[Value.ref b] s) (entryFrame m ([Value.ref b] : List Value).toArray 7) := by
  obtain ⟨G, hlo, hhi, C⟩ := ls_start C0
  obtain ⟨hx, hb, hr, hml, hown, hts, hX, hbl, hlocks, hgv⟩ := C0
  have hbA : ¬ mm_A G b := fun h => by have := h.1; omega
  have hz : s.heap.size = mm_lo G + 0 := hlo.symm
  have hM : mm_P G R_0 0 M_0 s.heap := ⟨fun k q hk => absurd (mm_Wi hk).1 (Nat.not_lt_zero _), by omega⟩
  have hS : va_S (mm_A G) s.heap s.heap [] := va_S.rf
  have hl := lv_entry ([.ref b]) (n := 7) (Nat.le_of_ble_eq_true rfl)
  rw [lg_entry_eq]
  generalize (lg_sl ([.ref b]) ++ List.replicate (7 - (lg_sl ([.ref b])).length) Slot.unset).toArray = ls at hl ⊢
  have hl : lv_has ls 7 [(0, .ref b)] := hl
  refine nL_9 C hz hM hS rfl (Nat.le_of_ble_eq_true rfl) (Nat.le_of_ble_eq_true rfl) dL_law_0 (fun H hM hS hz => ?_)
  refine lv_dup hx hb dL_law_3 rfl ?_
  refine iL_11 C hz hM hS (tX6_init l G (zR R_0 0) 1 0 (zM M_0 0) (Nat.le_of_ble_eq_true rfl) R1 M1 e1) hl.1 (Nat.le_of_ble_eq_true rfl) ⟨Nat.le_of_ble_eq_true rfl, Nat.le_of_ble_eq_true rfl⟩ dL_law_4 (fun H locs hM hS hz => ?_)
  refine lv_astore_n (lv' := [(1, .ref (mm_lo G + 0)), (0, .ref b)]) hx hb dL_law_7 rfl hl (by decide) rfl (fun ls hl => ?_)
  have hM : mm_P G R1 731 M1 H := hM
  have hM : mm_P G kR 731 M1 H := mm_Peq hR hM
  refine W.cs (cells' := 731) (slots' := 40523) rfl rfl ?_
  exact tL_law_8 hX hbA hbl hlo hhi C _ _ _ _ _ _ hM hS (lv_sub hl [1, 0] rfl) e3
