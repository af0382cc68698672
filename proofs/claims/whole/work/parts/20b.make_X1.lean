theorem in_X1_init_X1 : ∀ w ∈ u_ws RX1 TX1 3, w ∈ wsX1_init := by decide +kernel
set_option maxHeartbeats 4000000 in
set_option maxRecDepth 100000 in
theorem c_X1_init {l : Launch} {D : va_G} {k : Nat → ClassId} (h sz : Nat) : ctN l yX1_init wsX1_init ({ frames := 1, cells := 1, slots := 36, locals := 12 }) D k [.ref h] [(h, .inr (1, [.null, .int 0, .int 0]))] sz (fun u : Nat → Nat => wS k u (fun _ => 0) (-1) 0) (fun u : Nat → Nat => u 0 = h) 1 36 := by
  refine Met.ofW (cc := cX1_init) (maxL := 1) (ret := none) (by decide) rfl ?_
  intro p e s m args below meth c s₁ B hml hv
  obtain ⟨rfl, hsz, hP, hG, hO, hD0⟩ := hv
  have hx := B.exec
  have hb := B.bytes
  have hr := B.returns
  have hts := atoms_spec (ws := wsX1_init) B.pre
  have hown : s.vm.findClass RX1 = some m.cls := findClass_of_methodNamed B.named
  have hlocks := B.notSynchronized
  have hin : meth.name = "<init>" := (name_of_methodNamed B.named B.method).1
  subst hsz
  have hD := hD0.self (sz := s.heap.size)
  generalize hAe : va_A [(h, .inr (1, [.null, .int 0, .int 0]))] s.heap.size = A at hD ⊢
  have hA : ∀ q : Nat, s.heap.size ≤ q → A q := fun q h => by rw [← hAe]; exact Or.inr h
  have hS : va_S A s.heap s.heap [] := va_S.rf
  have hl := lv_entry ([.ref h]) (n := 1) (Nat.le_of_ble_eq_true rfl)
  rw [lg_entry_eq]
  generalize (lg_sl ([.ref h]) ++ List.replicate (1 - (lg_sl ([.ref h])).length) Slot.unset).toArray = ls at hl ⊢
  have hl : lv_has ls 1 [(0, .ref h)] := hl
  refine lv_aload_n hx hb dX1_init_0 rfl (lv_at hl 0 rfl) ?_
  refine W.objInit hx hb hown (hts (.methodLink RX1 3 objectInit) (by decide +kernel)) (hts (.instanceMethod objectInit) (by decide +kernel)) (hts (.code objectInit ⟨#[0xb1]⟩ 1 none) (by decide +kernel)) rfl (by rw [hml]; exact hl.1) rfl dX1_init_1 (Nat.le_of_ble_eq_true rfl) (Nat.le_of_ble_eq_true rfl) ?_
  refine W.eq (g2 := F0 m 4 ls []) rfl ?_
  refine lv_aload_n hx hb dX1_init_4 rfl (lv_at hl 0 rfl) ?_
  refine lv_bipush (v := 36) hx hb dX1_init_5 (by decide) ?_
  refine xNewa (atype := .long) (ty := .long) (a0 := (36, .inr (.inl (fun _ => 0)))) (N' := 36) hx hb (hts (.arrayClass .long) (by decide +kernel)) rfl hG.1 1 rfl (fun h9 => h9) hP hD hS hA (fun _ => rfl) (by decide) (by decide) (by decide) (Nat.le_of_ble_eq_true rfl) (Nat.le_of_ble_eq_true rfl) dX1_init_7 (fun q1 H hP hD hS => ?_)
  have hP : va_P D vwCl (([((h, .inr (1, [.null, .int 0, .int 0])) : Nat × va_E)]) ++ ([((q1, .inl (k 1, (36, .inr (.inl (fun _ => 0))))) : Nat × va_E)])) H := hP
  have hD : va_D A (([((h, .inr (1, [.null, .int 0, .int 0])) : Nat × va_E)]) ++ ([((q1, .inl (k 1, (36, .inr (.inl (fun _ => 0))))) : Nat × va_E)])) := hD
  refine va_putF (D := D) (ci := 1) (v := .ref q1) (ty := .array .long) (C := RX1) (T := TX1) (N := 3) hx hb hts in_X1_init_X1 tyX1 tyX1_ok nmX1 hown hG.1 hP hD hS 0 rfl rfl 0 (by decide) (hts (.fieldLink RX1 9 "GrowingCorners$Sheet" "items" "[J") (by decide +kernel)) (fun _ h9 => h9) rfl hin rfl (by decide +kernel) rfl rfl (Nat.le_of_ble_eq_true rfl) dX1_init_9 (fun H locs hP hD hS => ?_)
  have hP : va_P D vwCl (([((h, .inr (1, [.ref q1, .int 0, .int 0])) : Nat × va_E)]) ++ ([((q1, .inl (k 1, (36, .inr (.inl (fun _ => 0))))) : Nat × va_E)])) H := hP
  have hD : va_D A (([((h, .inr (1, [.ref q1, .int 0, .int 0])) : Nat × va_E)]) ++ ([((q1, .inl (k 1, (36, .inr (.inl (fun _ => 0))))) : Nat × va_E)])) := hD
  refine lv_aload_n hx hb dX1_init_12 rfl (lv_at hl 0 rfl) ?_
  refine lv_iconst (v := (-1)) hx hb dX1_init_13 (by decide) ?_
  refine va_put (D := D) (ci := 1) (v := .int (-1)) (ty := .int) (C := RX1) (T := TX1) (N := 3) hx hb hts in_X1_init_X1 tyX1 tyX1_ok nmX1 hown hG.1 hP hD hS 0 rfl rfl 1 (by decide) (hts (.fieldLink RX1 15 "GrowingCorners$Sheet" "lane" "I") (by decide +kernel)) (fun _ h9 => h9) rfl (by decide +kernel) rfl rfl (Nat.le_of_ble_eq_true rfl) dX1_init_14 (fun H locs hP hD hS => ?_)
  have hP : va_P D vwCl (([((h, .inr (1, [.ref q1, .int (-1), .int 0])) : Nat × va_E)]) ++ ([((q1, .inl (k 1, (36, .inr (.inl (fun _ => 0))))) : Nat × va_E)])) H := hP
  have hD : va_D A (([((h, .inr (1, [.ref q1, .int (-1), .int 0])) : Nat × va_E)]) ++ ([((q1, .inl (k 1, (36, .inr (.inl (fun _ => 0))))) : Nat × va_E)])) := hD
  refine lv_aload_n hx hb dX1_init_17 rfl (lv_at hl 0 rfl) ?_
  refine lv_iconst (v := 0) hx hb dX1_init_18 (by decide) ?_
  refine va_put (D := D) (ci := 1) (v := .int 0) (ty := .int) (C := RX1) (T := TX1) (N := 3) hx hb hts in_X1_init_X1 tyX1 tyX1_ok nmX1 hown hG.1 hP hD hS 0 rfl rfl 2 (by decide) (hts (.fieldLink RX1 19 "GrowingCorners$Sheet" "size" "I") (by decide +kernel)) (fun _ h9 => h9) rfl (by decide +kernel) rfl rfl (Nat.le_of_ble_eq_true rfl) dX1_init_19 (fun H locs hP hD hS => ?_)
  have hP : va_P D vwCl (([((h, .inr (1, [.ref q1, .int (-1), .int 0])) : Nat × va_E)]) ++ ([((q1, .inl (k 1, (36, .inr (.inl (fun _ => 0))))) : Nat × va_E)])) H := hP
  have hD : va_D A (([((h, .inr (1, [.ref q1, .int (-1), .int 0])) : Nat × va_E)]) ++ ([((q1, .inl (k 1, (36, .inr (.inl (fun _ => 0))))) : Nat × va_E)])) := hD
  refine W.widen (k := 1) (n := 36) (Nat.le_of_ble_eq_true rfl) (Nat.le_of_ble_eq_true rfl) ?_
  have hP : va_P D vwCl (wS k (xA3 h q1 0 (fun _ => 0)) (fun _ => 0) (-1) 0) H := hP
  have hD : va_D A (wS k (xA3 h q1 0 (fun _ => 0)) (fun _ => 0) (-1) 0) := hD
  exact W.vret hx hb hr (fun t ht hW => ⟨⟨(xA3 h q1 0 (fun _ => 0)), rfl, rfl, xHp ht hP, hD⟩, hS.F ht⟩) hS.2.2 dX1_init_22 hlocks
