theorem in_X2_init_X2 : ∀ w ∈ u_ws RX2 TX2 4, w ∈ wsX2_init := by decide +kernel
set_option maxHeartbeats 4000000 in
set_option maxRecDepth 100000 in
theorem c_X2_init {l : Launch} {D : va_G} {k : Nat → ClassId} (h sz : Nat) : ctN l yX2_init wsX2_init ({ frames := 1, cells := 11, slots := 378, locals := 12 }) D k [.ref h] [(h, .inr (2, [.null, .null, .int 0, .int 0]))] sz (fun u : Nat → Nat => wT k u 0 0 (fun _ => 0) (fun _ _ => 0)) (fun u : Nat → Nat => u 0 = h) 11 378 := by
  refine Met.ofW (cc := cX2_init) (maxL := 1) (ret := none) (by decide) rfl ?_
  intro p e s m args below meth c s₁ B hml hv
  obtain ⟨rfl, hsz, hP, hG, hO, hD0⟩ := hv
  have hx := B.exec
  have hb := B.bytes
  have hr := B.returns
  have hts := atoms_spec (ws := wsX2_init) B.pre
  have hown : s.vm.findClass RX2 = some m.cls := findClass_of_methodNamed B.named
  have hlocks := B.notSynchronized
  have hin : meth.name = "<init>" := (name_of_methodNamed B.named B.method).1
  subst hsz
  have hD := hD0.self (sz := s.heap.size)
  generalize hAe : va_A [(h, .inr (2, [.null, .null, .int 0, .int 0]))] s.heap.size = A at hD ⊢
  have hA : ∀ q : Nat, s.heap.size ≤ q → A q := fun q h => by rw [← hAe]; exact Or.inr h
  have hS : va_S A s.heap s.heap [] := va_S.rf
  have hl := lv_entry ([.ref h]) (n := 1) (Nat.le_of_ble_eq_true rfl)
  rw [lg_entry_eq]
  generalize (lg_sl ([.ref h]) ++ List.replicate (1 - (lg_sl ([.ref h])).length) Slot.unset).toArray = ls at hl ⊢
  have hl : lv_has ls 1 [(0, .ref h)] := hl
  refine lv_aload_n hx hb dX2_init_0 rfl (lv_at hl 0 rfl) ?_
  refine W.objInit hx hb hown (hts (.methodLink RX2 3 objectInit) (by decide +kernel)) (hts (.instanceMethod objectInit) (by decide +kernel)) (hts (.code objectInit ⟨#[0xb1]⟩ 1 none) (by decide +kernel)) rfl (by rw [hml]; exact hl.1) rfl dX2_init_1 (Nat.le_of_ble_eq_true rfl) (Nat.le_of_ble_eq_true rfl) ?_
  refine W.eq (g2 := F0 m 4 ls []) rfl ?_
  refine lv_aload_n hx hb dX2_init_4 rfl (lv_at hl 0 rfl) ?_
  refine lv_bipush (v := 9) hx hb dX2_init_5 (by decide) ?_
  refine lv_bipush (v := 40) hx hb dX2_init_7 (by decide) ?_
  refine xMna (ty := .int) (cy := k 0) (cA := k 3) (z := (40, .inl (fun _ => 0))) (N' := 9) (K' := 40) hx hb hown (hts (.classLink RX2 9 ("[" ++ (FieldType.array .int).toString)) (by decide +kernel)) hO.1 (hts (.arrayClass .int) (by decide +kernel)) (hG.1.2 0 _ rfl).2 (hG.1.2 3 _ rfl).2 hG.1 hP hD hS hA (by decide) (by decide) (by decide) (by decide) (by decide) (by decide) (by decide) rfl rfl (Nat.le_of_ble_eq_true rfl) (Nat.le_of_ble_eq_true rfl) (fun c => by rw [vp_cell_i]; exact arrV_new c 40 (.int 0)) dX2_init_9 (fun q1 f2 H hP hD hS => ?_)
  have hP : va_P D vwCl (([((h, .inr (2, [.null, .null, .int 0, .int 0])) : Nat × va_E)]) ++ ([((q1, .inl (k 3, 9, rfs f2)) : Nat × va_E)] ++ (List.range 9).map (fun i => ((f2 i, .inl (k 0, (40, .inl (fun _ => 0)))) : Nat × va_E)))) H := hP
  have hD : va_D A (([((h, .inr (2, [.null, .null, .int 0, .int 0])) : Nat × va_E)]) ++ ([((q1, .inl (k 3, 9, rfs f2)) : Nat × va_E)] ++ (List.range 9).map (fun i => ((f2 i, .inl (k 0, (40, .inl (fun _ => 0)))) : Nat × va_E)))) := hD
  refine va_putF (D := D) (ci := 2) (v := .ref q1) (ty := .array (.array .int)) (C := RX2) (T := TX2) (N := 4) hx hb hts in_X2_init_X2 tyX2 tyX2_ok nmX2 hown hG.1 hP hD hS 0 rfl rfl 0 (by decide) (hts (.fieldLink RX2 11 "GrowingCorners$Tableau" "numbers" "[[I") (by decide +kernel)) (fun _ h9 => h9) rfl hin rfl (by decide +kernel) rfl rfl (Nat.le_of_ble_eq_true rfl) dX2_init_13 (fun H locs hP hD hS => ?_)
  have hP : va_P D vwCl (([((h, .inr (2, [.ref q1, .null, .int 0, .int 0])) : Nat × va_E)]) ++ ([((q1, .inl (k 3, 9, rfs f2)) : Nat × va_E)] ++ (List.range 9).map (fun i => ((f2 i, .inl (k 0, (40, .inl (fun _ => 0)))) : Nat × va_E)))) H := hP
  have hD : va_D A (([((h, .inr (2, [.ref q1, .null, .int 0, .int 0])) : Nat × va_E)]) ++ ([((q1, .inl (k 3, 9, rfs f2)) : Nat × va_E)] ++ (List.range 9).map (fun i => ((f2 i, .inl (k 0, (40, .inl (fun _ => 0)))) : Nat × va_E)))) := hD
  refine lv_aload_n hx hb dX2_init_16 rfl (lv_at hl 0 rfl) ?_
  refine lv_bipush (v := 9) hx hb dX2_init_17 (by decide) ?_
  refine xNewa (atype := .int) (ty := .int) (a0 := (9, .inl (fun _ => 0))) (N' := 9) hx hb (hts (.arrayClass .int) (by decide +kernel)) rfl hG.1 0 rfl (fun h9 => h9) hP hD hS hA (fun _ => rfl) (by decide) (by decide) (by decide) (Nat.le_of_ble_eq_true rfl) (Nat.le_of_ble_eq_true rfl) dX2_init_19 (fun q3 H hP hD hS => ?_)
  have hP : va_P D vwCl ((([((h, .inr (2, [.ref q1, .null, .int 0, .int 0])) : Nat × va_E)]) ++ ([((q1, .inl (k 3, 9, rfs f2)) : Nat × va_E)] ++ (List.range 9).map (fun i => ((f2 i, .inl (k 0, (40, .inl (fun _ => 0)))) : Nat × va_E)))) ++ ([((q3, .inl (k 0, (9, .inl (fun _ => 0)))) : Nat × va_E)])) H := hP
  have hD : va_D A ((([((h, .inr (2, [.ref q1, .null, .int 0, .int 0])) : Nat × va_E)]) ++ ([((q1, .inl (k 3, 9, rfs f2)) : Nat × va_E)] ++ (List.range 9).map (fun i => ((f2 i, .inl (k 0, (40, .inl (fun _ => 0)))) : Nat × va_E)))) ++ ([((q3, .inl (k 0, (9, .inl (fun _ => 0)))) : Nat × va_E)])) := hD
  refine va_putF (D := D) (ci := 2) (v := .ref q3) (ty := .array .int) (C := RX2) (T := TX2) (N := 4) hx hb hts in_X2_init_X2 tyX2 tyX2_ok nmX2 hown hG.1 hP hD hS 0 rfl rfl 1 (by decide) (hts (.fieldLink RX2 16 "GrowingCorners$Tableau" "lengths" "[I") (by decide +kernel)) (fun _ h9 => h9) rfl hin rfl (by decide +kernel) rfl rfl (Nat.le_of_ble_eq_true rfl) dX2_init_21 (fun H locs hP hD hS => ?_)
  have hP : va_P D vwCl ((([((h, .inr (2, [.ref q1, .ref q3, .int 0, .int 0])) : Nat × va_E)]) ++ ([((q1, .inl (k 3, 9, rfs f2)) : Nat × va_E)] ++ (List.range 9).map (fun i => ((f2 i, .inl (k 0, (40, .inl (fun _ => 0)))) : Nat × va_E)))) ++ ([((q3, .inl (k 0, (9, .inl (fun _ => 0)))) : Nat × va_E)])) H := hP
  have hD : va_D A ((([((h, .inr (2, [.ref q1, .ref q3, .int 0, .int 0])) : Nat × va_E)]) ++ ([((q1, .inl (k 3, 9, rfs f2)) : Nat × va_E)] ++ (List.range 9).map (fun i => ((f2 i, .inl (k 0, (40, .inl (fun _ => 0)))) : Nat × va_E)))) ++ ([((q3, .inl (k 0, (9, .inl (fun _ => 0)))) : Nat × va_E)])) := hD
  refine lv_aload_n hx hb dX2_init_24 rfl (lv_at hl 0 rfl) ?_
  refine lv_iconst (v := 0) hx hb dX2_init_25 (by decide) ?_
  refine va_put (D := D) (ci := 2) (v := .int 0) (ty := .int) (C := RX2) (T := TX2) (N := 4) hx hb hts in_X2_init_X2 tyX2 tyX2_ok nmX2 hown hG.1 hP hD hS 0 rfl rfl 2 (by decide) (hts (.fieldLink RX2 20 "GrowingCorners$Tableau" "rows" "I") (by decide +kernel)) (fun _ h9 => h9) rfl (by decide +kernel) rfl rfl (Nat.le_of_ble_eq_true rfl) dX2_init_26 (fun H locs hP hD hS => ?_)
  have hP : va_P D vwCl ((([((h, .inr (2, [.ref q1, .ref q3, .int 0, .int 0])) : Nat × va_E)]) ++ ([((q1, .inl (k 3, 9, rfs f2)) : Nat × va_E)] ++ (List.range 9).map (fun i => ((f2 i, .inl (k 0, (40, .inl (fun _ => 0)))) : Nat × va_E)))) ++ ([((q3, .inl (k 0, (9, .inl (fun _ => 0)))) : Nat × va_E)])) H := hP
  have hD : va_D A ((([((h, .inr (2, [.ref q1, .ref q3, .int 0, .int 0])) : Nat × va_E)]) ++ ([((q1, .inl (k 3, 9, rfs f2)) : Nat × va_E)] ++ (List.range 9).map (fun i => ((f2 i, .inl (k 0, (40, .inl (fun _ => 0)))) : Nat × va_E)))) ++ ([((q3, .inl (k 0, (9, .inl (fun _ => 0)))) : Nat × va_E)])) := hD
  refine lv_aload_n hx hb dX2_init_29 rfl (lv_at hl 0 rfl) ?_
  refine lv_iconst (v := 0) hx hb dX2_init_30 (by decide) ?_
  refine va_put (D := D) (ci := 2) (v := .int 0) (ty := .int) (C := RX2) (T := TX2) (N := 4) hx hb hts in_X2_init_X2 tyX2 tyX2_ok nmX2 hown hG.1 hP hD hS 0 rfl rfl 3 (by decide) (hts (.fieldLink RX2 24 "GrowingCorners$Tableau" "places" "I") (by decide +kernel)) (fun _ h9 => h9) rfl (by decide +kernel) rfl rfl (Nat.le_of_ble_eq_true rfl) dX2_init_31 (fun H locs hP hD hS => ?_)
  have hP : va_P D vwCl ((([((h, .inr (2, [.ref q1, .ref q3, .int 0, .int 0])) : Nat × va_E)]) ++ ([((q1, .inl (k 3, 9, rfs f2)) : Nat × va_E)] ++ (List.range 9).map (fun i => ((f2 i, .inl (k 0, (40, .inl (fun _ => 0)))) : Nat × va_E)))) ++ ([((q3, .inl (k 0, (9, .inl (fun _ => 0)))) : Nat × va_E)])) H := hP
  have hD : va_D A ((([((h, .inr (2, [.ref q1, .ref q3, .int 0, .int 0])) : Nat × va_E)]) ++ ([((q1, .inl (k 3, 9, rfs f2)) : Nat × va_E)] ++ (List.range 9).map (fun i => ((f2 i, .inl (k 0, (40, .inl (fun _ => 0)))) : Nat × va_E)))) ++ ([((q3, .inl (k 0, (9, .inl (fun _ => 0)))) : Nat × va_E)])) := hD
  refine W.widen (k := 11) (n := 378) (Nat.le_of_ble_eq_true rfl) (Nat.le_of_ble_eq_true rfl) ?_
  have hP : va_P D vwCl (wT k (xA3 h q1 q3 f2) 0 0 (fun _ => 0) (fun _ _ => 0)) H := xP_perm (xPermC fun _ x => by rw [xT_made]; simp only [List.count_append]; omega) hP
  have hD : va_D A (wT k (xA3 h q1 q3 f2) 0 0 (fun _ => 0) (fun _ _ => 0)) := xD_perm (xPermC fun _ x => by rw [xT_made]; simp only [List.count_append]; omega) hD
  exact W.vret hx hb hr (fun t ht hW => ⟨⟨(xA3 h q1 q3 f2), rfl, rfl, xHp ht hP, hD⟩, hS.F ht⟩) hS.2.2 dX2_init_34 hlocks
