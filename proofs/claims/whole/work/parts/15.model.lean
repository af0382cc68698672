def p_X5_in (x0 : Int64) (x2 : Int64) (x4 : Int64) (post : Int32 → Prop) : Prop := (((lg_cmp x0 x2) < 0 → post 0) ∧ (¬ (lg_cmp x0 x2) < 0 → ((0 < (lg_cmp x0 x4) → post 0) ∧ (¬ 0 < (lg_cmp x0 x4) → post 1))))
set_option maxHeartbeats 4000000 in
set_option maxRecDepth 100000 in
theorem c_X5_in {l : Launch} {D : va_G} {k : Nat → ClassId} (x0 : Int64) (x2 : Int64) (x4 : Int64) {post : Int32 → Prop} (hf : p_X5_in x0 x2 x4 post) : ctI l yX5_in wsX5_in ({ frames := 0, cells := 0, slots := 0, locals := 0 }) D k [.long x0, .long x2, .long x4] ([]) (fun u : Unit => []) (fun (r : Int32) (u : Unit) => post r) := by
  refine Met.ofW (cc := cX5_in) (maxL := 6) (ret := (some .boolean)) (by decide) rfl ?_
  intro p e s m args below meth c s₁ B hml hv
  obtain ⟨rfl, hP, hG, hD0⟩ := hv
  have C0 : xM p s m ([.long x0, .long x2, .long x4] : List Value).toArray meth c cX5_in 6 RX5 (some .boolean) wsX5_in := ⟨B.exec, B.bytes, B.returns, atoms_spec (ws := wsX5_in) B.pre, findClass_of_methodNamed B.named, B.notSynchronized, hml⟩
  obtain ⟨hx, hb, hr, hts, hown, hlocks, hml⟩ := id C0
  have hD := xSelf hD0
  have hS : va_S (xIn ([])) s.heap s.heap [] := va_S.rf
  generalize xIn ([]) = A at hD hS ⊢
  have hl := lv_entry ([.long x0, .long x2, .long x4]) (n := 6) (Nat.le_of_ble_eq_true rfl)
  rw [lg_entry_eq]
  generalize (lg_sl ([.long x0, .long x2, .long x4]) ++ List.replicate (6 - (lg_sl ([.long x0, .long x2, .long x4])).length) Slot.unset).toArray = ls at hl ⊢
  have hl : lv_has ls 6 [(0, .long x0), (2, .long x2), (4, .long x4)] := hl
  unfold p_X5_in at hf
  refine lv_lload_n hx hb dX5_in_0 rfl (lv_at hl 0 rfl) ?_
  refine lv_lload_n hx hb dX5_in_1 rfl (lv_at hl 1 rfl) ?_
  refine W.lcmp hx hb dX5_in_2 ?_
  refine lv_if_lt (tgt := 17) hx hb dX5_in_3 (by decide) (fun c_1 => ?_) (fun c_1 => ?_)
  · have hf := hf.1 c_1
    refine lv_iconst (v := 0) hx hb dX5_in_17 (by decide) ?_
    exact W.zret (v := 0) hx hb hr rfl (fun t ht hW => ⟨⟨(0 : Int32), (), rfl, hf, xHp ht hP⟩, hS.F ht⟩) hS.2.2 dX5_in_18 hlocks
  · have hf := hf.2 c_1
    refine lv_lload_n hx hb dX5_in_6 rfl (lv_at hl 0 rfl) ?_
    refine lv_lload hx hb dX5_in_7 (lv_at hl 2 rfl) ?_
    refine W.lcmp hx hb dX5_in_9 ?_
    refine lv_if_gt (tgt := 17) hx hb dX5_in_10 (by decide) (fun c_2 => ?_) (fun c_2 => ?_)
    · have hf := hf.1 c_2
      refine lv_iconst (v := 0) hx hb dX5_in_17 (by decide) ?_
      exact W.zret (v := 0) hx hb hr rfl (fun t ht hW => ⟨⟨(0 : Int32), (), rfl, hf, xHp ht hP⟩, hS.F ht⟩) hS.2.2 dX5_in_18 hlocks
    · have hf := hf.2 c_2
      refine lv_iconst (v := 1) hx hb dX5_in_13 (by decide) ?_
      refine lv_goto (tgt := 18) hx hb dX5_in_14 (by decide) ?_
      exact W.zret (v := 1) hx hb hr rfl (fun t ht hW => ⟨⟨(1 : Int32), (), rfl, hf, xHp ht hP⟩, hS.F ht⟩) hS.2.2 dX5_in_18 hlocks

def p_X5_greater (x0 : Int32) (x1 : Int32) (post : Int32 → Prop) : Prop := ((x0 ≤ x1 → post x1) ∧ (¬ x0 ≤ x1 → post x0))
set_option maxHeartbeats 4000000 in
set_option maxRecDepth 100000 in
theorem c_X5_greater {l : Launch} {D : va_G} {k : Nat → ClassId} (x0 : Int32) (x1 : Int32) {post : Int32 → Prop} (hf : p_X5_greater x0 x1 post) : ctI l yX5_greater wsX5_greater ({ frames := 0, cells := 0, slots := 0, locals := 0 }) D k [.int x0, .int x1] ([]) (fun u : Unit => []) (fun (r : Int32) (u : Unit) => post r) := by
  refine Met.ofW (cc := cX5_greater) (maxL := 2) (ret := (some .int)) (by decide) rfl ?_
  intro p e s m args below meth c s₁ B hml hv
  obtain ⟨rfl, hP, hG, hD0⟩ := hv
  have C0 : xM p s m ([.int x0, .int x1] : List Value).toArray meth c cX5_greater 2 RX5 (some .int) wsX5_greater := ⟨B.exec, B.bytes, B.returns, atoms_spec (ws := wsX5_greater) B.pre, findClass_of_methodNamed B.named, B.notSynchronized, hml⟩
  obtain ⟨hx, hb, hr, hts, hown, hlocks, hml⟩ := id C0
  have hD := xSelf hD0
  have hS : va_S (xIn ([])) s.heap s.heap [] := va_S.rf
  generalize xIn ([]) = A at hD hS ⊢
  have hl := lv_entry ([.int x0, .int x1]) (n := 2) (Nat.le_of_ble_eq_true rfl)
  rw [lg_entry_eq]
  generalize (lg_sl ([.int x0, .int x1]) ++ List.replicate (2 - (lg_sl ([.int x0, .int x1])).length) Slot.unset).toArray = ls at hl ⊢
  have hl : lv_has ls 2 [(0, .int x0), (1, .int x1)] := hl
  unfold p_X5_greater at hf
  refine lv_iload_n hx hb dX5_greater_0 rfl (lv_at hl 0 rfl) ?_
  refine lv_iload_n hx hb dX5_greater_1 rfl (lv_at hl 1 rfl) ?_
  refine lv_icmp_le (tgt := 9) hx hb dX5_greater_2 (by decide) (fun c_1 => ?_) (fun c_1 => ?_)
  · have hf := hf.1 c_1
    refine lv_iload_n hx hb dX5_greater_9 rfl (lv_at hl 1 rfl) ?_
    exact W.iret (v := x1) hx hb hr (fun t ht hW => ⟨⟨x1, (), rfl, hf, xHp ht hP⟩, hS.F ht⟩) hS.2.2 dX5_greater_10 hlocks
  · have hf := hf.2 c_1
    refine lv_iload_n hx hb dX5_greater_5 rfl (lv_at hl 0 rfl) ?_
    refine lv_goto (tgt := 10) hx hb dX5_greater_6 (by decide) ?_
    exact W.iret (v := x0) hx hb hr (fun t ht hW => ⟨⟨x0, (), rfl, hf, xHp ht hP⟩, hS.F ht⟩) hS.2.2 dX5_greater_10 hlocks

def p_X5_isPlace (mm : Int32) (nn : Int32) (x1 : Int32) (x2 : Int32) (post : Int32 → Prop) : Prop := p_X5_in (x1.toInt64) 0 ((mm - 1).toInt64) (fun r_1 => ((r_1 = 0 → post 0) ∧ (¬ r_1 = 0 → p_X5_in (x2.toInt64) 0 ((nn - 1).toInt64) (fun r_3 => ((r_3 = 0 → post 0) ∧ (¬ r_3 = 0 → post 1))))))
theorem in_X5_isPlace_X5 : ∀ w ∈ u_ws RX5 TX5 22, w ∈ wsX5_isPlace := by decide +kernel
theorem lk_X5_isPlace_13 : Cond.fieldLink RX5 13 "GrowingCornersModel" "n" "I" ∈ wsX5_isPlace := by decide +kernel
theorem lk_X5_isPlace_7 : Cond.fieldLink RX5 7 "GrowingCornersModel" "m" "I" ∈ wsX5_isPlace := by decide +kernel
set_option maxHeartbeats 4000000 in
set_option maxRecDepth 100000 in
theorem c_X5_isPlace {l : Launch} {D : va_G} {k : Nat → ClassId} (a : Nat → Nat) (mm : Int32) (nn : Int32) (we : Nat → Int32) (la : Nat → Int32) (si : Nat → Int32) (it : Nat → Int32) (be : Nat → Int32) (pa : Nat → Int32) (su : Nat → Int64) (wo : Nat → Int32) (le : Int32) (pp : Nat → Int32) (qq : Nat → Int32) (ro : Nat → Int32) (lo : Nat → Int32) (lp : Nat → Int32) (lq : Nat → Int32) (rp : Nat → Int32) (rq : Nat → Int32) (se : Nat → Int32) (no : Nat → Int64) (ne : Nat → Int64) (x1 : Int32) (x2 : Int32) {post : Int32 → Prop} (hf : p_X5_isPlace mm nn x1 x2 post) : ctI l yX5_isPlace wsX5_isPlace ({ frames := 1, cells := 0, slots := 0, locals := 25 }) D k [.ref (a 0), .int x1, .int x2] (wM k a mm nn we la si it be pa su wo le pp qq ro lo lp lq rp rq se no ne) (fun u : Unit => wM k a mm nn we la si it be pa su wo le pp qq ro lo lp lq rp rq se no ne) (fun (r : Int32) (u : Unit) => post r) := by
  refine Met.ofW (cc := cX5_isPlace) (maxL := 3) (ret := (some .boolean)) (by decide) rfl ?_
  intro p e s m args below meth c s₁ B hml hv
  obtain ⟨rfl, hP, hG, hD0⟩ := hv
  have C0 : xM p s m ([.ref (a 0), .int x1, .int x2] : List Value).toArray meth c cX5_isPlace 3 RX5 (some .boolean) wsX5_isPlace := ⟨B.exec, B.bytes, B.returns, atoms_spec (ws := wsX5_isPlace) B.pre, findClass_of_methodNamed B.named, B.notSynchronized, hml⟩
  obtain ⟨hx, hb, hr, hts, hown, hlocks, hml⟩ := id C0
  have hD := xSelf hD0
  have hS : va_S (xIn (wM k a mm nn we la si it be pa su wo le pp qq ro lo lp lq rp rq se no ne)) s.heap s.heap [] := va_S.rf
  generalize xIn (wM k a mm nn we la si it be pa su wo le pp qq ro lo lp lq rp rq se no ne) = A at hD hS ⊢
  have hl := lv_entry ([.ref (a 0), .int x1, .int x2]) (n := 3) (Nat.le_of_ble_eq_true rfl)
  rw [lg_entry_eq]
  generalize (lg_sl ([.ref (a 0), .int x1, .int x2]) ++ List.replicate (3 - (lg_sl ([.ref (a 0), .int x1, .int x2])).length) Slot.unset).toArray = ls at hl ⊢
  have hl : lv_has ls 3 [(0, .ref (a 0)), (1, .int x1), (2, .int x2)] := hl
  unfold p_X5_isPlace at hf
  refine lv_iload_n hx hb dX5_isPlace_0 rfl (lv_at hl 1 rfl) ?_
  refine lv_i2l (v := x1.toInt64) hx hb dX5_isPlace_1 rfl ?_
  refine lv_lconst (v := 0) hx hb dX5_isPlace_2 (by decide) ?_
  refine lv_aload_n hx hb dX5_isPlace_3 rfl (lv_at hl 0 rfl) ?_
  refine va_get (D := D) (ci := 5) (C := RX5) (T := TX5) (N := 22) hx hb hts in_X5_isPlace_X5 hown hG.1 hP 0 rfl rfl 0 (by decide) (hts _ lk_X5_isPlace_7) (fun _ h9 => h9) rfl dX5_isPlace_4 ?_
  refine lv_iconst (v := 1) hx hb dX5_isPlace_7 (by decide) ?_
  refine lv_isub hx hb dX5_isPlace_8 ?_
  refine lv_i2l (v := (mm - 1).toInt64) hx hb dX5_isPlace_9 rfl ?_
  have hp : xPerm (wM k a mm nn we la si it be pa su wo le pp qq ro lo lp lq rp rq se no ne) (([]) ++ (wM k a mm nn we la si it be pa su wo le pp qq ro lo lp lq rp rq se no ne)) := (List.Perm.refl _)
  refine xCallI (w := []) (r := wM k a mm nn we la si it be pa su wo le pp qq ro lo lp lq rp rq se no ne) (va_runS (As := [.long (x1.toInt64), .long 0, .long ((mm - 1).toInt64)]) (rest := []) ⟨hx, hb, hml, hown, hts⟩ (c_X5_in (x1.toInt64) 0 ((mm - 1).toInt64) hf) (va_cwS 3 hts gX5_isPlace_X5_in rfl rfl rfl (by decide +kernel) ⟨Nat.le_of_ble_eq_true rfl, Nat.le_of_ble_eq_true rfl⟩) (xPreS hG hP hD hp) rfl rfl hl.1 rfl (lv_room (Nat.le_of_ble_eq_true rfl)) dX5_isPlace_10 ⟨Nat.zero_le _, Nat.zero_le _⟩) hP hD hS hp (fun _ => rfl) (fun r_1 _ H locs hf hP hD hS => ?_)
  have hP : va_P D vwCl (wM k a mm nn we la si it be pa su wo le pp qq ro lo lp lq rp rq se no ne) H := hP
  have hD : va_D A (wM k a mm nn we la si it be pa su wo le pp qq ro lo lp lq rp rq se no ne) := hD
  refine lv_if_eq (tgt := 36) hx hb dX5_isPlace_13 (by decide) (fun c_2 => ?_) (fun c_2 => ?_)
  · have hf := hf.1 c_2
    refine lv_iconst (v := 0) hx hb dX5_isPlace_36 (by decide) ?_
    exact W.zret (v := 0) hx hb hr rfl (fun t ht hW => ⟨⟨(0 : Int32), (), rfl, hf, xHp ht hP⟩, hS.F ht⟩) hS.2.2 dX5_isPlace_37 hlocks
  · have hf := hf.2 c_2
    refine lv_iload_n hx hb dX5_isPlace_16 rfl (lv_at hl 2 rfl) ?_
    refine lv_i2l (v := x2.toInt64) hx hb dX5_isPlace_17 rfl ?_
    refine lv_lconst (v := 0) hx hb dX5_isPlace_18 (by decide) ?_
    refine lv_aload_n hx hb dX5_isPlace_19 rfl (lv_at hl 0 rfl) ?_
    refine va_get (D := D) (ci := 5) (C := RX5) (T := TX5) (N := 22) hx hb hts in_X5_isPlace_X5 hown hG.1 hP 0 rfl rfl 1 (by decide) (hts _ lk_X5_isPlace_13) (fun _ h9 => h9) rfl dX5_isPlace_20 ?_
    refine lv_iconst (v := 1) hx hb dX5_isPlace_23 (by decide) ?_
    refine lv_isub hx hb dX5_isPlace_24 ?_
    refine lv_i2l (v := (nn - 1).toInt64) hx hb dX5_isPlace_25 rfl ?_
    have hp : xPerm (wM k a mm nn we la si it be pa su wo le pp qq ro lo lp lq rp rq se no ne) (([]) ++ (wM k a mm nn we la si it be pa su wo le pp qq ro lo lp lq rp rq se no ne)) := (List.Perm.refl _)
    refine xCallI (w := []) (r := wM k a mm nn we la si it be pa su wo le pp qq ro lo lp lq rp rq se no ne) (va_runS (As := [.long (x2.toInt64), .long 0, .long ((nn - 1).toInt64)]) (rest := []) ⟨hx, hb, hml, hown, hts⟩ (c_X5_in (x2.toInt64) 0 ((nn - 1).toInt64) hf) (va_cwS 3 hts gX5_isPlace_X5_in rfl rfl rfl (by decide +kernel) ⟨Nat.le_of_ble_eq_true rfl, Nat.le_of_ble_eq_true rfl⟩) (xPreS hG hP hD hp) rfl rfl hl.1 rfl (lv_room (Nat.le_of_ble_eq_true rfl)) dX5_isPlace_26 ⟨Nat.zero_le _, Nat.zero_le _⟩) hP hD hS hp (fun _ => rfl) (fun r_3 _ H locs hf hP hD hS => ?_)
    have hP : va_P D vwCl (wM k a mm nn we la si it be pa su wo le pp qq ro lo lp lq rp rq se no ne) H := hP
    have hD : va_D A (wM k a mm nn we la si it be pa su wo le pp qq ro lo lp lq rp rq se no ne) := hD
    refine lv_if_eq (tgt := 36) hx hb dX5_isPlace_29 (by decide) (fun c_4 => ?_) (fun c_4 => ?_)
    · have hf := hf.1 c_4
      refine lv_iconst (v := 0) hx hb dX5_isPlace_36 (by decide) ?_
      exact W.zret (v := 0) hx hb hr rfl (fun t ht hW => ⟨⟨(0 : Int32), (), rfl, hf, xHp ht hP⟩, hS.F ht⟩) hS.2.2 dX5_isPlace_37 hlocks
    · have hf := hf.2 c_4
      refine lv_iconst (v := 1) hx hb dX5_isPlace_32 (by decide) ?_
      refine lv_goto (tgt := 37) hx hb dX5_isPlace_33 (by decide) ?_
      exact W.zret (v := 1) hx hb hr rfl (fun t ht hW => ⟨⟨(1 : Int32), (), rfl, hf, xHp ht hP⟩, hS.F ht⟩) hS.2.2 dX5_isPlace_37 hlocks

def p_X5_box_38 (x1 : Int32) (x2 : Int32) (post : Int32 → Int32 → Int32 → (Nat → Int32) → Prop) : Nat → Int32 → Int32 → (Nat → Int32) → Int32 → Prop
  | 0, _, _, _, _ => False
  | n + 1, mm, nn, we, x3 => ((36 ≤ x3 → post 1 mm nn we) ∧ (¬ 36 ≤ x3 → (vp_in x3 36 ∧ p_X5_box_38 x1 x2 post n mm nn (upd we (x3.toNatClampNeg) 0) (x3 + 1))))
def p_X5_box (mm : Int32) (nn : Int32) (we : Nat → Int32) (x1 : Int32) (x2 : Int32) (post : Int32 → Int32 → Int32 → (Nat → Int32) → Prop) : Prop := p_X5_in (x1.toInt64) 1 6 (fun r_1 => ((r_1 = 0 → post (-1) mm nn we) ∧ (¬ r_1 = 0 → p_X5_in (x2.toInt64) 1 6 (fun r_3 => ((r_3 = 0 → post (-1) mm nn we) ∧ (¬ r_3 = 0 → (∃ n_7, p_X5_box_38 x1 x2 post n_7 x1 x2 we 0)))))))
theorem in_X5_box_X5 : ∀ w ∈ u_ws RX5 TX5 22, w ∈ wsX5_box := by decide +kernel
theorem lk_X5_box_13 : Cond.fieldLink RX5 13 "GrowingCornersModel" "n" "I" ∈ wsX5_box := by decide +kernel
theorem lk_X5_box_16 : Cond.fieldLink RX5 16 "GrowingCornersModel" "weights" "[I" ∈ wsX5_box := by decide +kernel
theorem lk_X5_box_7 : Cond.fieldLink RX5 7 "GrowingCornersModel" "m" "I" ∈ wsX5_box := by decide +kernel
theorem mb_X5_box_cl80 : Cond.constantLong RX5 80 (6) ∈ wsX5_box := by decide +kernel
set_option maxHeartbeats 4000000 in
set_option maxRecDepth 100000 in
theorem k_X5_box_38 {p : Program} {l : Launch} {e : Env} {s : State} {m : MethodId} {args : Array Value} {below : List Frame} {meth : Method} {c : Code} {A : Nat → Prop} {D : va_G} {k : Nat → ClassId} {a : Nat → Nat} {la : Nat → Int32} {si : Nat → Int32} {it : Nat → Int32} {be : Nat → Int32} {pa : Nat → Int32} {su : Nat → Int64} {wo : Nat → Int32} {le : Int32} {pp : Nat → Int32} {qq : Nat → Int32} {ro : Nat → Int32} {lo : Nat → Int32} {lp : Nat → Int32} {lq : Nat → Int32} {rp : Nat → Int32} {rq : Nat → Int32} {se : Nat → Int32} {no : Nat → Int64} {ne : Nat → Int64} {x1 : Int32} {x2 : Int32} (C0 : xM p s m args meth c cX5_box 4 RX5 (some .int) wsX5_box) (hG : xG D k s) {post : Int32 → Int32 → Int32 → (Nat → Int32) → Prop} : ∀ (n : Nat) (mm : Int32) (nn : Int32) (we : Nat → Int32) (x3 : Int32) (H : Heap) (locs : List Loc) (ls : Array Slot), p_X5_box_38 x1 x2 post n mm nn we x3 → va_P D vwCl (wM k a mm nn we la si it be pa su wo le pp qq ro lo lp lq rp rq se no ne) H → va_D A (wM k a mm nn we la si it be pa su wo le pp qq ro lo lp lq rp rq se no ne) → va_S A s.heap H locs → lv_has ls 4 [(0, .ref (a 0)), (3, .int x3)] → W p l e ({ frames := 1, cells := 0, slots := 0, locals := 25 }) s m args below meth c H locs 0 0 (MQ below (va_Qi (fun (r : Int32) (u : Int32 × Int32 × (Nat → Int32)) => post r u.1 u.2.1 u.2.2) (fun u t => va_P D vwCl (wM k a (u.1) (u.2.1) (u.2.2) la si it be pa su wo le pp qq ro lo lp lq rp rq se no ne) t.heap) A) args s 0 0 A) (F0 m 38 ls []) := by
  obtain ⟨hx, hb, hr, hts, hown, hlocks, hml⟩ := id C0
  intro n
  induction n with
  | zero =>
    intro mm nn we x3 H locs ls hf
    exact False.elim hf
  | succ n ih =>
    intro mm nn we x3 H locs ls hf hP hD hS hl
    unfold p_X5_box_38 at hf
    refine lv_iload_n hx hb dX5_box_38 rfl (lv_at hl 1 rfl) ?_
    refine lv_bipush (v := 36) hx hb dX5_box_39 (by decide) ?_
    refine lv_icmp_ge (tgt := 57) hx hb dX5_box_41 (by decide) (fun c_5 => ?_) (fun c_5 => ?_)
    · have hf := hf.1 c_5
      refine lv_iconst (v := 1) hx hb dX5_box_57 (by decide) ?_
      exact W.iret (v := 1) hx hb hr (fun t ht hW => ⟨⟨(1 : Int32), (mm, nn, we), rfl, hf, xHp ht hP⟩, hS.F ht⟩) hS.2.2 dX5_box_58 hlocks
    · have hf := hf.2 c_5
      refine lv_aload_n hx hb dX5_box_44 rfl (lv_at hl 0 rfl) ?_
      refine va_get (D := D) (ci := 5) (C := RX5) (T := TX5) (N := 22) hx hb hts in_X5_box_X5 hown hG.1 hP 0 rfl rfl 2 (by decide) (hts _ lk_X5_box_16) (fun _ h9 => h9) rfl dX5_box_45 ?_
      refine lv_iload_n hx hb dX5_box_48 rfl (lv_at hl 1 rfl) ?_
      refine lv_iconst (v := 0) hx hb dX5_box_49 (by decide) ?_
      obtain ⟨h_6, hf⟩ := hf
      refine va_iast hx hb hG.1 hP hD hS 1 0 rfl rfl h_6 dX5_box_50 (fun H locs hP hD hS => ?_)
      have hP : va_P D vwCl (wM k a mm nn (upd we (x3.toNatClampNeg) 0) la si it be pa su wo le pp qq ro lo lp lq rp rq se no ne) H := hP
      have hD : va_D A (wM k a mm nn (upd we (x3.toNatClampNeg) 0) la si it be pa su wo le pp qq ro lo lp lq rp rq se no ne) := hD
      refine lv_iinc (v := x3 + 1) (lv' := [(3, .int (x3 + 1)), (0, .ref (a 0))]) hx hb dX5_box_51 hl (k := 1) rfl rfl (by decide) rfl (fun ls hl => ?_)
      refine lv_goto (tgt := 38) hx hb dX5_box_54 (by decide) ?_
      exact ih mm nn (upd we (x3.toNatClampNeg) 0) (x3 + 1) _ _ _ hf hP hD hS (lv_sub hl [1, 0] rfl)
set_option maxHeartbeats 4000000 in
set_option maxRecDepth 100000 in
theorem c_X5_box {l : Launch} {D : va_G} {k : Nat → ClassId} (a : Nat → Nat) (mm : Int32) (nn : Int32) (we : Nat → Int32) (la : Nat → Int32) (si : Nat → Int32) (it : Nat → Int32) (be : Nat → Int32) (pa : Nat → Int32) (su : Nat → Int64) (wo : Nat → Int32) (le : Int32) (pp : Nat → Int32) (qq : Nat → Int32) (ro : Nat → Int32) (lo : Nat → Int32) (lp : Nat → Int32) (lq : Nat → Int32) (rp : Nat → Int32) (rq : Nat → Int32) (se : Nat → Int32) (no : Nat → Int64) (ne : Nat → Int64) (x1 : Int32) (x2 : Int32) {post : Int32 → Int32 → Int32 → (Nat → Int32) → Prop} (hf : p_X5_box mm nn we x1 x2 post) : ctI l yX5_box wsX5_box ({ frames := 1, cells := 0, slots := 0, locals := 25 }) D k [.ref (a 0), .int x1, .int x2] (wM k a mm nn we la si it be pa su wo le pp qq ro lo lp lq rp rq se no ne) (fun u : Int32 × Int32 × (Nat → Int32) => wM k a (u.1) (u.2.1) (u.2.2) la si it be pa su wo le pp qq ro lo lp lq rp rq se no ne) (fun (r : Int32) (u : Int32 × Int32 × (Nat → Int32)) => post r u.1 u.2.1 u.2.2) := by
  refine Met.ofW (cc := cX5_box) (maxL := 4) (ret := (some .int)) (by decide) rfl ?_
  intro p e s m args below meth c s₁ B hml hv
  obtain ⟨rfl, hP, hG, hD0⟩ := hv
  have C0 : xM p s m ([.ref (a 0), .int x1, .int x2] : List Value).toArray meth c cX5_box 4 RX5 (some .int) wsX5_box := ⟨B.exec, B.bytes, B.returns, atoms_spec (ws := wsX5_box) B.pre, findClass_of_methodNamed B.named, B.notSynchronized, hml⟩
  obtain ⟨hx, hb, hr, hts, hown, hlocks, hml⟩ := id C0
  have hD := xSelf hD0
  have hS : va_S (xIn (wM k a mm nn we la si it be pa su wo le pp qq ro lo lp lq rp rq se no ne)) s.heap s.heap [] := va_S.rf
  generalize xIn (wM k a mm nn we la si it be pa su wo le pp qq ro lo lp lq rp rq se no ne) = A at hD hS ⊢
  have hl := lv_entry ([.ref (a 0), .int x1, .int x2]) (n := 4) (Nat.le_of_ble_eq_true rfl)
  rw [lg_entry_eq]
  generalize (lg_sl ([.ref (a 0), .int x1, .int x2]) ++ List.replicate (4 - (lg_sl ([.ref (a 0), .int x1, .int x2])).length) Slot.unset).toArray = ls at hl ⊢
  have hl : lv_has ls 4 [(0, .ref (a 0)), (1, .int x1), (2, .int x2)] := hl
  unfold p_X5_box at hf
  refine lv_iload_n hx hb dX5_box_0 rfl (lv_at hl 1 rfl) ?_
  refine lv_i2l (v := x1.toInt64) hx hb dX5_box_1 rfl ?_
  refine lv_lconst (v := 1) hx hb dX5_box_2 (by decide) ?_
  refine lv_ldc2 (v := 6) hx hb hown (hts _ mb_X5_box_cl80) dX5_box_3 ?_
  have hp : xPerm (wM k a mm nn we la si it be pa su wo le pp qq ro lo lp lq rp rq se no ne) (([]) ++ (wM k a mm nn we la si it be pa su wo le pp qq ro lo lp lq rp rq se no ne)) := (List.Perm.refl _)
  refine xCallI (w := []) (r := wM k a mm nn we la si it be pa su wo le pp qq ro lo lp lq rp rq se no ne) (va_runS (As := [.long (x1.toInt64), .long 1, .long 6]) (rest := []) ⟨hx, hb, hml, hown, hts⟩ (c_X5_in (x1.toInt64) 1 6 hf) (va_cwS 3 hts gX5_box_X5_in rfl rfl rfl (by decide +kernel) ⟨Nat.le_of_ble_eq_true rfl, Nat.le_of_ble_eq_true rfl⟩) (xPreS hG hP hD hp) rfl rfl hl.1 rfl (lv_room (Nat.le_of_ble_eq_true rfl)) dX5_box_6 ⟨Nat.zero_le _, Nat.zero_le _⟩) hP hD hS hp (fun _ => rfl) (fun r_1 _ H locs hf hP hD hS => ?_)
  have hP : va_P D vwCl (wM k a mm nn we la si it be pa su wo le pp qq ro lo lp lq rp rq se no ne) H := hP
  have hD : va_D A (wM k a mm nn we la si it be pa su wo le pp qq ro lo lp lq rp rq se no ne) := hD
  refine lv_if_eq (tgt := 24) hx hb dX5_box_9 (by decide) (fun c_2 => ?_) (fun c_2 => ?_)
  · have hf := hf.1 c_2
    refine lv_iconst (v := (-1)) hx hb dX5_box_24 (by decide) ?_
    exact W.iret (v := (-1)) hx hb hr (fun t ht hW => ⟨⟨((-1) : Int32), (mm, nn, we), rfl, hf, xHp ht hP⟩, hS.F ht⟩) hS.2.2 dX5_box_25 hlocks
  · have hf := hf.2 c_2
    refine lv_iload_n hx hb dX5_box_12 rfl (lv_at hl 2 rfl) ?_
    refine lv_i2l (v := x2.toInt64) hx hb dX5_box_13 rfl ?_
    refine lv_lconst (v := 1) hx hb dX5_box_14 (by decide) ?_
    refine lv_ldc2 (v := 6) hx hb hown (hts _ mb_X5_box_cl80) dX5_box_15 ?_
    have hp : xPerm (wM k a mm nn we la si it be pa su wo le pp qq ro lo lp lq rp rq se no ne) (([]) ++ (wM k a mm nn we la si it be pa su wo le pp qq ro lo lp lq rp rq se no ne)) := (List.Perm.refl _)
    refine xCallI (w := []) (r := wM k a mm nn we la si it be pa su wo le pp qq ro lo lp lq rp rq se no ne) (va_runS (As := [.long (x2.toInt64), .long 1, .long 6]) (rest := []) ⟨hx, hb, hml, hown, hts⟩ (c_X5_in (x2.toInt64) 1 6 hf) (va_cwS 3 hts gX5_box_X5_in rfl rfl rfl (by decide +kernel) ⟨Nat.le_of_ble_eq_true rfl, Nat.le_of_ble_eq_true rfl⟩) (xPreS hG hP hD hp) rfl rfl hl.1 rfl (lv_room (Nat.le_of_ble_eq_true rfl)) dX5_box_18 ⟨Nat.zero_le _, Nat.zero_le _⟩) hP hD hS hp (fun _ => rfl) (fun r_3 _ H locs hf hP hD hS => ?_)
    have hP : va_P D vwCl (wM k a mm nn we la si it be pa su wo le pp qq ro lo lp lq rp rq se no ne) H := hP
    have hD : va_D A (wM k a mm nn we la si it be pa su wo le pp qq ro lo lp lq rp rq se no ne) := hD
    refine lv_if_ne (tgt := 26) hx hb dX5_box_21 (by decide) (fun c_4 => ?_) (fun c_4 => ?_)
    · have hf := hf.2 c_4
      refine lv_aload_n hx hb dX5_box_26 rfl (lv_at hl 0 rfl) ?_
      refine lv_iload_n hx hb dX5_box_27 rfl (lv_at hl 1 rfl) ?_
      refine va_put (D := D) (ci := 5) (v := .int x1) (ty := .int) (C := RX5) (T := TX5) (N := 22) hx hb hts in_X5_box_X5 tyX5 tyX5_ok nmX5 hown hG.1 hP hD hS 0 rfl rfl 0 (by decide) (hts _ lk_X5_box_7) (fun _ h9 => h9) rfl (by decide +kernel) rfl rfl (Nat.le_of_ble_eq_true rfl) dX5_box_28 (fun H locs hP hD hS => ?_)
      have hP : va_P D vwCl (wM k a x1 nn we la si it be pa su wo le pp qq ro lo lp lq rp rq se no ne) H := hP
      have hD : va_D A (wM k a x1 nn we la si it be pa su wo le pp qq ro lo lp lq rp rq se no ne) := hD
      refine lv_aload_n hx hb dX5_box_31 rfl (lv_at hl 0 rfl) ?_
      refine lv_iload_n hx hb dX5_box_32 rfl (lv_at hl 2 rfl) ?_
      refine va_put (D := D) (ci := 5) (v := .int x2) (ty := .int) (C := RX5) (T := TX5) (N := 22) hx hb hts in_X5_box_X5 tyX5 tyX5_ok nmX5 hown hG.1 hP hD hS 0 rfl rfl 1 (by decide) (hts _ lk_X5_box_13) (fun _ h9 => h9) rfl (by decide +kernel) rfl rfl (Nat.le_of_ble_eq_true rfl) dX5_box_33 (fun H locs hP hD hS => ?_)
      have hP : va_P D vwCl (wM k a x1 x2 we la si it be pa su wo le pp qq ro lo lp lq rp rq se no ne) H := hP
      have hD : va_D A (wM k a x1 x2 we la si it be pa su wo le pp qq ro lo lp lq rp rq se no ne) := hD
      refine lv_iconst (v := 0) hx hb dX5_box_36 (by decide) ?_
      refine lv_istore_n (lv' := [(3, .int 0), (0, .ref (a 0)), (1, .int x1), (2, .int x2)]) hx hb dX5_box_37 rfl hl (by decide) rfl (fun ls hl => ?_)
      obtain ⟨n_7, hf⟩ := hf
      exact k_X5_box_38 C0 hG n_7 x1 x2 we 0 _ _ _ hf hP hD hS (lv_sub hl [1, 0] rfl)
    · have hf := hf.1 c_4
      refine lv_iconst (v := (-1)) hx hb dX5_box_24 (by decide) ?_
      exact W.iret (v := (-1)) hx hb hr (fun t ht hW => ⟨⟨((-1) : Int32), (mm, nn, we), rfl, hf, xHp ht hP⟩, hS.F ht⟩) hS.2.2 dX5_box_25 hlocks

def p_X5_weight (mm : Int32) (nn : Int32) (we : Nat → Int32) (x1 : Int32) (x2 : Int32) (x3 : Int32) (post : Int32 → (Nat → Int32) → Prop) : Prop := p_X5_isPlace mm nn x1 x2 (fun r_1 => ((r_1 = 0 → post (-1) we) ∧ (¬ r_1 = 0 → p_X5_in (x3.toInt64) 0 20 (fun r_3 => ((r_3 = 0 → post (-1) we) ∧ (¬ r_3 = 0 → (vp_in ((6 * x1) + x2) 36 ∧ (vp_in ((6 * x1) + x2) 36 ∧ post (we ((6 * x1) + x2).toNatClampNeg) (upd we (((6 * x1) + x2).toNatClampNeg) x3)))))))))
theorem in_X5_weight_X5 : ∀ w ∈ u_ws RX5 TX5 22, w ∈ wsX5_weight := by decide +kernel
theorem lk_X5_weight_16 : Cond.fieldLink RX5 16 "GrowingCornersModel" "weights" "[I" ∈ wsX5_weight := by decide +kernel
theorem mb_X5_weight_cl86 : Cond.constantLong RX5 86 (20) ∈ wsX5_weight := by decide +kernel
set_option maxHeartbeats 4000000 in
set_option maxRecDepth 100000 in
theorem c_X5_weight {l : Launch} {D : va_G} {k : Nat → ClassId} (a : Nat → Nat) (mm : Int32) (nn : Int32) (we : Nat → Int32) (la : Nat → Int32) (si : Nat → Int32) (it : Nat → Int32) (be : Nat → Int32) (pa : Nat → Int32) (su : Nat → Int64) (wo : Nat → Int32) (le : Int32) (pp : Nat → Int32) (qq : Nat → Int32) (ro : Nat → Int32) (lo : Nat → Int32) (lp : Nat → Int32) (lq : Nat → Int32) (rp : Nat → Int32) (rq : Nat → Int32) (se : Nat → Int32) (no : Nat → Int64) (ne : Nat → Int64) (x1 : Int32) (x2 : Int32) (x3 : Int32) {post : Int32 → (Nat → Int32) → Prop} (hf : p_X5_weight mm nn we x1 x2 x3 post) : ctI l yX5_weight wsX5_weight ({ frames := 2, cells := 0, slots := 0, locals := 47 }) D k [.ref (a 0), .int x1, .int x2, .int x3] (wM k a mm nn we la si it be pa su wo le pp qq ro lo lp lq rp rq se no ne) (fun u : (Nat → Int32) => wM k a mm nn u la si it be pa su wo le pp qq ro lo lp lq rp rq se no ne) (fun (r : Int32) (u : (Nat → Int32)) => post r u) := by
  refine Met.ofW (cc := cX5_weight) (maxL := 5) (ret := (some .int)) (by decide) rfl ?_
  intro p e s m args below meth c s₁ B hml hv
  obtain ⟨rfl, hP, hG, hD0⟩ := hv
  have C0 : xM p s m ([.ref (a 0), .int x1, .int x2, .int x3] : List Value).toArray meth c cX5_weight 5 RX5 (some .int) wsX5_weight := ⟨B.exec, B.bytes, B.returns, atoms_spec (ws := wsX5_weight) B.pre, findClass_of_methodNamed B.named, B.notSynchronized, hml⟩
  obtain ⟨hx, hb, hr, hts, hown, hlocks, hml⟩ := id C0
  have hD := xSelf hD0
  have hS : va_S (xIn (wM k a mm nn we la si it be pa su wo le pp qq ro lo lp lq rp rq se no ne)) s.heap s.heap [] := va_S.rf
  generalize xIn (wM k a mm nn we la si it be pa su wo le pp qq ro lo lp lq rp rq se no ne) = A at hD hS ⊢
  have hl := lv_entry ([.ref (a 0), .int x1, .int x2, .int x3]) (n := 5) (Nat.le_of_ble_eq_true rfl)
  rw [lg_entry_eq]
  generalize (lg_sl ([.ref (a 0), .int x1, .int x2, .int x3]) ++ List.replicate (5 - (lg_sl ([.ref (a 0), .int x1, .int x2, .int x3])).length) Slot.unset).toArray = ls at hl ⊢
  have hl : lv_has ls 5 [(0, .ref (a 0)), (1, .int x1), (2, .int x2), (3, .int x3)] := hl
  unfold p_X5_weight at hf
  refine lv_aload_n hx hb dX5_weight_0 rfl (lv_at hl 0 rfl) ?_
  refine lv_iload_n hx hb dX5_weight_1 rfl (lv_at hl 1 rfl) ?_
  refine lv_iload_n hx hb dX5_weight_2 rfl (lv_at hl 2 rfl) ?_
  have hp : xPerm (wM k a mm nn we la si it be pa su wo le pp qq ro lo lp lq rp rq se no ne) ((wM k a mm nn we la si it be pa su wo le pp qq ro lo lp lq rp rq se no ne) ++ ([])) := xPermNil
  refine xCallI (w := wM k a mm nn we la si it be pa su wo le pp qq ro lo lp lq rp rq se no ne) (r := []) (va_runV (As := [.int x1, .int x2]) (rest := []) ⟨hx, hb, hml, hown, hts⟩ (c_X5_isPlace a mm nn we la si it be pa su wo le pp qq ro lo lp lq rp rq se no ne x1 x2 hf) (cwV 2 hts gX5_weight_X5_isPlace rfl rfl rfl (by decide +kernel) ⟨Nat.le_of_ble_eq_true rfl, Nat.le_of_ble_eq_true rfl⟩) (xPreV hG hP hD hp (ci := 5) rfl (i := 0) rfl) rfl rfl hl.1 rfl (lv_room (Nat.le_of_ble_eq_true rfl)) dX5_weight_3 ⟨Nat.zero_le _, Nat.zero_le _⟩) hP hD hS hp (fun _ => rfl) (fun r_1 _ H locs hf hP hD hS => ?_)
  have hP : va_P D vwCl (wM k a mm nn we la si it be pa su wo le pp qq ro lo lp lq rp rq se no ne) H := xNilP hP
  have hD : va_D A (wM k a mm nn we la si it be pa su wo le pp qq ro lo lp lq rp rq se no ne) := xNilD hD
  refine lv_if_eq (tgt := 21) hx hb dX5_weight_6 (by decide) (fun c_2 => ?_) (fun c_2 => ?_)
  · have hf := hf.1 c_2
    refine lv_iconst (v := (-1)) hx hb dX5_weight_21 (by decide) ?_
    exact W.iret (v := (-1)) hx hb hr (fun t ht hW => ⟨⟨((-1) : Int32), we, rfl, hf, xHp ht hP⟩, hS.F ht⟩) hS.2.2 dX5_weight_22 hlocks
  · have hf := hf.2 c_2
    refine lv_iload_n hx hb dX5_weight_9 rfl (lv_at hl 3 rfl) ?_
    refine lv_i2l (v := x3.toInt64) hx hb dX5_weight_10 rfl ?_
    refine lv_lconst (v := 0) hx hb dX5_weight_11 (by decide) ?_
    refine lv_ldc2 (v := 20) hx hb hown (hts _ mb_X5_weight_cl86) dX5_weight_12 ?_
    have hp : xPerm (wM k a mm nn we la si it be pa su wo le pp qq ro lo lp lq rp rq se no ne) (([]) ++ (wM k a mm nn we la si it be pa su wo le pp qq ro lo lp lq rp rq se no ne)) := (List.Perm.refl _)
    refine xCallI (w := []) (r := wM k a mm nn we la si it be pa su wo le pp qq ro lo lp lq rp rq se no ne) (va_runS (As := [.long (x3.toInt64), .long 0, .long 20]) (rest := []) ⟨hx, hb, hml, hown, hts⟩ (c_X5_in (x3.toInt64) 0 20 hf) (va_cwS 3 hts gX5_weight_X5_in rfl rfl rfl (by decide +kernel) ⟨Nat.le_of_ble_eq_true rfl, Nat.le_of_ble_eq_true rfl⟩) (xPreS hG hP hD hp) rfl rfl hl.1 rfl (lv_room (Nat.le_of_ble_eq_true rfl)) dX5_weight_15 ⟨Nat.zero_le _, Nat.zero_le _⟩) hP hD hS hp (fun _ => rfl) (fun r_3 _ H locs hf hP hD hS => ?_)
    have hP : va_P D vwCl (wM k a mm nn we la si it be pa su wo le pp qq ro lo lp lq rp rq se no ne) H := hP
    have hD : va_D A (wM k a mm nn we la si it be pa su wo le pp qq ro lo lp lq rp rq se no ne) := hD
    refine lv_if_ne (tgt := 23) hx hb dX5_weight_18 (by decide) (fun c_4 => ?_) (fun c_4 => ?_)
    · have hf := hf.2 c_4
      refine lv_aload_n hx hb dX5_weight_23 rfl (lv_at hl 0 rfl) ?_
      refine va_get (D := D) (ci := 5) (C := RX5) (T := TX5) (N := 22) hx hb hts in_X5_weight_X5 hown hG.1 hP 0 rfl rfl 2 (by decide) (hts _ lk_X5_weight_16) (fun _ h9 => h9) rfl dX5_weight_24 ?_
      refine lv_bipush (v := 6) hx hb dX5_weight_27 (by decide) ?_
      refine lv_iload_n hx hb dX5_weight_29 rfl (lv_at hl 1 rfl) ?_
      refine lv_imul hx hb dX5_weight_30 ?_
      refine lv_iload_n hx hb dX5_weight_31 rfl (lv_at hl 2 rfl) ?_
      refine lv_iadd hx hb dX5_weight_32 ?_
      obtain ⟨h_5, hf⟩ := hf
      refine va_iald hx hb hG.1 hP 1 0 rfl rfl h_5 dX5_weight_33 ?_
      refine lv_istore (lv' := [(4, .int (we ((6 * x1) + x2).toNatClampNeg)), (0, .ref (a 0)), (1, .int x1), (2, .int x2), (3, .int x3)]) hx hb dX5_weight_34 hl (by decide) rfl (fun ls hl => ?_)
      refine lv_aload_n hx hb dX5_weight_36 rfl (lv_at hl 1 rfl) ?_
      refine va_get (D := D) (ci := 5) (C := RX5) (T := TX5) (N := 22) hx hb hts in_X5_weight_X5 hown hG.1 hP 0 rfl rfl 2 (by decide) (hts _ lk_X5_weight_16) (fun _ h9 => h9) rfl dX5_weight_37 ?_
      refine lv_bipush (v := 6) hx hb dX5_weight_40 (by decide) ?_
      refine lv_iload_n hx hb dX5_weight_42 rfl (lv_at hl 2 rfl) ?_
      refine lv_imul hx hb dX5_weight_43 ?_
      refine lv_iload_n hx hb dX5_weight_44 rfl (lv_at hl 3 rfl) ?_
      refine lv_iadd hx hb dX5_weight_45 ?_
      refine lv_iload_n hx hb dX5_weight_46 rfl (lv_at hl 4 rfl) ?_
      obtain ⟨h_6, hf⟩ := hf
      refine va_iast hx hb hG.1 hP hD hS 1 0 rfl rfl h_6 dX5_weight_47 (fun H locs hP hD hS => ?_)
      have hP : va_P D vwCl (wM k a mm nn (upd we (((6 * x1) + x2).toNatClampNeg) x3) la si it be pa su wo le pp qq ro lo lp lq rp rq se no ne) H := hP
      have hD : va_D A (wM k a mm nn (upd we (((6 * x1) + x2).toNatClampNeg) x3) la si it be pa su wo le pp qq ro lo lp lq rp rq se no ne) := hD
      refine lv_iload hx hb dX5_weight_48 (lv_at hl 0 rfl) ?_
      exact W.iret (v := (we ((6 * x1) + x2).toNatClampNeg)) hx hb hr (fun t ht hW => ⟨⟨(we ((6 * x1) + x2).toNatClampNeg), (upd we (((6 * x1) + x2).toNatClampNeg) x3), rfl, hf, xHp ht hP⟩, hS.F ht⟩) hS.2.2 dX5_weight_50 hlocks
    · have hf := hf.1 c_4
      refine lv_iconst (v := (-1)) hx hb dX5_weight_21 (by decide) ?_
      exact W.iret (v := (-1)) hx hb hr (fun t ht hW => ⟨⟨((-1) : Int32), we, rfl, hf, xHp ht hP⟩, hS.F ht⟩) hS.2.2 dX5_weight_22 hlocks

def p_X5_isSheet (x0 : Int32) (x1 : Int32) (post : Int32 → Prop) : Prop := p_X5_in (x0.toInt64) 0 3 (fun r_1 => ((r_1 = 0 → post 0) ∧ (¬ r_1 = 0 → p_X5_in (x1.toInt64) 0 1 (fun r_3 => ((r_3 = 0 → post 0) ∧ (¬ r_3 = 0 → post 1))))))
theorem mb_X5_isSheet_cl88 : Cond.constantLong RX5 88 (3) ∈ wsX5_isSheet := by decide +kernel
set_option maxHeartbeats 4000000 in
set_option maxRecDepth 100000 in
theorem c_X5_isSheet {l : Launch} {D : va_G} {k : Nat → ClassId} (x0 : Int32) (x1 : Int32) {post : Int32 → Prop} (hf : p_X5_isSheet x0 x1 post) : ctI l yX5_isSheet wsX5_isSheet ({ frames := 1, cells := 0, slots := 0, locals := 25 }) D k [.int x0, .int x1] ([]) (fun u : Unit => []) (fun (r : Int32) (u : Unit) => post r) := by
  refine Met.ofW (cc := cX5_isSheet) (maxL := 2) (ret := (some .boolean)) (by decide) rfl ?_
  intro p e s m args below meth c s₁ B hml hv
  obtain ⟨rfl, hP, hG, hD0⟩ := hv
  have C0 : xM p s m ([.int x0, .int x1] : List Value).toArray meth c cX5_isSheet 2 RX5 (some .boolean) wsX5_isSheet := ⟨B.exec, B.bytes, B.returns, atoms_spec (ws := wsX5_isSheet) B.pre, findClass_of_methodNamed B.named, B.notSynchronized, hml⟩
  obtain ⟨hx, hb, hr, hts, hown, hlocks, hml⟩ := id C0
  have hD := xSelf hD0
  have hS : va_S (xIn ([])) s.heap s.heap [] := va_S.rf
  generalize xIn ([]) = A at hD hS ⊢
  have hl := lv_entry ([.int x0, .int x1]) (n := 2) (Nat.le_of_ble_eq_true rfl)
  rw [lg_entry_eq]
  generalize (lg_sl ([.int x0, .int x1]) ++ List.replicate (2 - (lg_sl ([.int x0, .int x1])).length) Slot.unset).toArray = ls at hl ⊢
  have hl : lv_has ls 2 [(0, .int x0), (1, .int x1)] := hl
  unfold p_X5_isSheet at hf
  refine lv_iload_n hx hb dX5_isSheet_0 rfl (lv_at hl 0 rfl) ?_
  refine lv_i2l (v := x0.toInt64) hx hb dX5_isSheet_1 rfl ?_
  refine lv_lconst (v := 0) hx hb dX5_isSheet_2 (by decide) ?_
  refine lv_ldc2 (v := 3) hx hb hown (hts _ mb_X5_isSheet_cl88) dX5_isSheet_3 ?_
  have hp : xPerm ([]) (([]) ++ ([])) := (List.Perm.refl _)
  refine xCallI (w := []) (r := []) (va_runS (As := [.long (x0.toInt64), .long 0, .long 3]) (rest := []) ⟨hx, hb, hml, hown, hts⟩ (c_X5_in (x0.toInt64) 0 3 hf) (va_cwS 3 hts gX5_isSheet_X5_in rfl rfl rfl (by decide +kernel) ⟨Nat.le_of_ble_eq_true rfl, Nat.le_of_ble_eq_true rfl⟩) (xPreS hG hP hD hp) rfl rfl hl.1 rfl (lv_room (Nat.le_of_ble_eq_true rfl)) dX5_isSheet_6 ⟨Nat.zero_le _, Nat.zero_le _⟩) hP hD hS hp (fun _ => rfl) (fun r_1 _ H locs hf hP hD hS => ?_)
  have hP : va_P D vwCl ([]) H := hP
  have hD : va_D A ([]) := hD
  refine lv_if_eq (tgt := 26) hx hb dX5_isSheet_9 (by decide) (fun c_2 => ?_) (fun c_2 => ?_)
  · have hf := hf.1 c_2
    refine lv_iconst (v := 0) hx hb dX5_isSheet_26 (by decide) ?_
    exact W.zret (v := 0) hx hb hr rfl (fun t ht hW => ⟨⟨(0 : Int32), (), rfl, hf, xHp ht hP⟩, hS.F ht⟩) hS.2.2 dX5_isSheet_27 hlocks
  · have hf := hf.2 c_2
    refine lv_iload_n hx hb dX5_isSheet_12 rfl (lv_at hl 1 rfl) ?_
    refine lv_i2l (v := x1.toInt64) hx hb dX5_isSheet_13 rfl ?_
    refine lv_lconst (v := 0) hx hb dX5_isSheet_14 (by decide) ?_
    refine lv_lconst (v := 1) hx hb dX5_isSheet_15 (by decide) ?_
    have hp : xPerm ([]) (([]) ++ ([])) := (List.Perm.refl _)
    refine xCallI (w := []) (r := []) (va_runS (As := [.long (x1.toInt64), .long 0, .long 1]) (rest := []) ⟨hx, hb, hml, hown, hts⟩ (c_X5_in (x1.toInt64) 0 1 hf) (va_cwS 3 hts gX5_isSheet_X5_in rfl rfl rfl (by decide +kernel) ⟨Nat.le_of_ble_eq_true rfl, Nat.le_of_ble_eq_true rfl⟩) (xPreS hG hP hD hp) rfl rfl hl.1 rfl (lv_room (Nat.le_of_ble_eq_true rfl)) dX5_isSheet_16 ⟨Nat.zero_le _, Nat.zero_le _⟩) hP hD hS hp (fun _ => rfl) (fun r_3 _ H locs hf hP hD hS => ?_)
    have hP : va_P D vwCl ([]) H := hP
    have hD : va_D A ([]) := hD
    refine lv_if_eq (tgt := 26) hx hb dX5_isSheet_19 (by decide) (fun c_4 => ?_) (fun c_4 => ?_)
    · have hf := hf.1 c_4
      refine lv_iconst (v := 0) hx hb dX5_isSheet_26 (by decide) ?_
      exact W.zret (v := 0) hx hb hr rfl (fun t ht hW => ⟨⟨(0 : Int32), (), rfl, hf, xHp ht hP⟩, hS.F ht⟩) hS.2.2 dX5_isSheet_27 hlocks
    · have hf := hf.2 c_4
      refine lv_iconst (v := 1) hx hb dX5_isSheet_22 (by decide) ?_
      refine lv_goto (tgt := 27) hx hb dX5_isSheet_23 (by decide) ?_
      exact W.zret (v := 1) hx hb hr rfl (fun t ht hW => ⟨⟨(1 : Int32), (), rfl, hf, xHp ht hP⟩, hS.F ht⟩) hS.2.2 dX5_isSheet_27 hlocks

def p_X5_sheet_40 (x1 : Int32) (x2 : Int32) (x3 : Int32) (post : Int32 → (Nat → Int32) → (Nat → Int32) → (Nat → Int32) → Prop) : Nat → (Nat → Int32) → (Nat → Int32) → (Nat → Int32) → Int32 → Prop
  | 0, _, _, _, _ => False
  | n + 1, la, si, it, x4 => ((36 ≤ x4 → post x3 la si it) ∧ (¬ 36 ≤ x4 → (vp_in ((36 * x1) + x4) 144 ∧ p_X5_sheet_40 x1 x2 x3 post n la si (upd it (((36 * x1) + x4).toNatClampNeg) 0) (x4 + 1))))
def p_X5_sheet (la : Nat → Int32) (si : Nat → Int32) (it : Nat → Int32) (x1 : Int32) (x2 : Int32) (x3 : Int32) (post : Int32 → (Nat → Int32) → (Nat → Int32) → (Nat → Int32) → Prop) : Prop := p_X5_isSheet x1 x2 (fun r_1 => ((r_1 = 0 → post (-1) la si it) ∧ (¬ r_1 = 0 → ((x3 ≤ 36 → ((0 ≤ x3 → (vp_in x1 4 ∧ (vp_in x1 4 ∧ (∃ n_9, p_X5_sheet_40 x1 x2 x3 post n_9 (upd la (x1.toNatClampNeg) x2) (upd si (x1.toNatClampNeg) x3) it 0)))) ∧ (¬ 0 ≤ x3 → post (-14) la si it))) ∧ (¬ x3 ≤ 36 → post (-1) la si it)))))
theorem in_X5_sheet_X5 : ∀ w ∈ u_ws RX5 TX5 22, w ∈ wsX5_sheet := by decide +kernel
theorem lk_X5_sheet_20 : Cond.fieldLink RX5 20 "GrowingCornersModel" "lanes" "[I" ∈ wsX5_sheet := by decide +kernel
theorem lk_X5_sheet_23 : Cond.fieldLink RX5 23 "GrowingCornersModel" "sizes" "[I" ∈ wsX5_sheet := by decide +kernel
theorem lk_X5_sheet_26 : Cond.fieldLink RX5 26 "GrowingCornersModel" "items" "[I" ∈ wsX5_sheet := by decide +kernel
set_option maxHeartbeats 4000000 in
set_option maxRecDepth 100000 in
theorem k_X5_sheet_40 {p : Program} {l : Launch} {e : Env} {s : State} {m : MethodId} {args : Array Value} {below : List Frame} {meth : Method} {c : Code} {A : Nat → Prop} {D : va_G} {k : Nat → ClassId} {a : Nat → Nat} {mm : Int32} {nn : Int32} {we : Nat → Int32} {be : Nat → Int32} {pa : Nat → Int32} {su : Nat → Int64} {wo : Nat → Int32} {le : Int32} {pp : Nat → Int32} {qq : Nat → Int32} {ro : Nat → Int32} {lo : Nat → Int32} {lp : Nat → Int32} {lq : Nat → Int32} {rp : Nat → Int32} {rq : Nat → Int32} {se : Nat → Int32} {no : Nat → Int64} {ne : Nat → Int64} {x1 : Int32} {x2 : Int32} {x3 : Int32} (C0 : xM p s m args meth c cX5_sheet 5 RX5 (some .int) wsX5_sheet) (hG : xG D k s) {post : Int32 → (Nat → Int32) → (Nat → Int32) → (Nat → Int32) → Prop} : ∀ (n : Nat) (la : Nat → Int32) (si : Nat → Int32) (it : Nat → Int32) (x4 : Int32) (H : Heap) (locs : List Loc) (ls : Array Slot), p_X5_sheet_40 x1 x2 x3 post n la si it x4 → va_P D vwCl (wM k a mm nn we la si it be pa su wo le pp qq ro lo lp lq rp rq se no ne) H → va_D A (wM k a mm nn we la si it be pa su wo le pp qq ro lo lp lq rp rq se no ne) → va_S A s.heap H locs → lv_has ls 5 [(0, .ref (a 0)), (1, .int x1), (3, .int x3), (4, .int x4)] → W p l e ({ frames := 2, cells := 0, slots := 0, locals := 46 }) s m args below meth c H locs 0 0 (MQ below (va_Qi (fun (r : Int32) (u : (Nat → Int32) × (Nat → Int32) × (Nat → Int32)) => post r u.1 u.2.1 u.2.2) (fun u t => va_P D vwCl (wM k a mm nn we (u.1) (u.2.1) (u.2.2) be pa su wo le pp qq ro lo lp lq rp rq se no ne) t.heap) A) args s 0 0 A) (F0 m 40 ls []) := by
  obtain ⟨hx, hb, hr, hts, hown, hlocks, hml⟩ := id C0
  intro n
  induction n with
  | zero =>
    intro la si it x4 H locs ls hf
    exact False.elim hf
  | succ n ih =>
    intro la si it x4 H locs ls hf hP hD hS hl
    unfold p_X5_sheet_40 at hf
    refine lv_iload hx hb dX5_sheet_40 (lv_at hl 3 rfl) ?_
    refine lv_bipush (v := 36) hx hb dX5_sheet_42 (by decide) ?_
    refine lv_icmp_ge (tgt := 66) hx hb dX5_sheet_44 (by decide) (fun c_7 => ?_) (fun c_7 => ?_)
    · have hf := hf.1 c_7
      refine lv_iload_n hx hb dX5_sheet_66 rfl (lv_at hl 2 rfl) ?_
      exact W.iret (v := x3) hx hb hr (fun t ht hW => ⟨⟨x3, (la, si, it), rfl, hf, xHp ht hP⟩, hS.F ht⟩) hS.2.2 dX5_sheet_67 hlocks
    · have hf := hf.2 c_7
      refine lv_aload_n hx hb dX5_sheet_47 rfl (lv_at hl 0 rfl) ?_
      refine va_get (D := D) (ci := 5) (C := RX5) (T := TX5) (N := 22) hx hb hts in_X5_sheet_X5 hown hG.1 hP 0 rfl rfl 5 (by decide) (hts _ lk_X5_sheet_26) (fun _ h9 => h9) rfl dX5_sheet_48 ?_
      refine lv_bipush (v := 36) hx hb dX5_sheet_51 (by decide) ?_
      refine lv_iload_n hx hb dX5_sheet_53 rfl (lv_at hl 1 rfl) ?_
      refine lv_imul hx hb dX5_sheet_54 ?_
      refine lv_iload hx hb dX5_sheet_55 (lv_at hl 3 rfl) ?_
      refine lv_iadd hx hb dX5_sheet_57 ?_
      refine lv_iconst (v := 0) hx hb dX5_sheet_58 (by decide) ?_
      obtain ⟨h_8, hf⟩ := hf
      refine va_iast hx hb hG.1 hP hD hS 4 0 rfl rfl h_8 dX5_sheet_59 (fun H locs hP hD hS => ?_)
      have hP : va_P D vwCl (wM k a mm nn we la si (upd it (((36 * x1) + x4).toNatClampNeg) 0) be pa su wo le pp qq ro lo lp lq rp rq se no ne) H := hP
      have hD : va_D A (wM k a mm nn we la si (upd it (((36 * x1) + x4).toNatClampNeg) 0) be pa su wo le pp qq ro lo lp lq rp rq se no ne) := hD
      refine lv_iinc (v := x4 + 1) (lv' := [(4, .int (x4 + 1)), (0, .ref (a 0)), (1, .int x1), (3, .int x3)]) hx hb dX5_sheet_60 hl (k := 3) rfl rfl (by decide) rfl (fun ls hl => ?_)
      refine lv_goto (tgt := 40) hx hb dX5_sheet_63 (by decide) ?_
      exact ih la si (upd it (((36 * x1) + x4).toNatClampNeg) 0) (x4 + 1) _ _ _ hf hP hD hS (lv_sub hl [1, 2, 3, 0] rfl)
set_option maxHeartbeats 4000000 in
set_option maxRecDepth 100000 in
theorem c_X5_sheet {l : Launch} {D : va_G} {k : Nat → ClassId} (a : Nat → Nat) (mm : Int32) (nn : Int32) (we : Nat → Int32) (la : Nat → Int32) (si : Nat → Int32) (it : Nat → Int32) (be : Nat → Int32) (pa : Nat → Int32) (su : Nat → Int64) (wo : Nat → Int32) (le : Int32) (pp : Nat → Int32) (qq : Nat → Int32) (ro : Nat → Int32) (lo : Nat → Int32) (lp : Nat → Int32) (lq : Nat → Int32) (rp : Nat → Int32) (rq : Nat → Int32) (se : Nat → Int32) (no : Nat → Int64) (ne : Nat → Int64) (x1 : Int32) (x2 : Int32) (x3 : Int32) {post : Int32 → (Nat → Int32) → (Nat → Int32) → (Nat → Int32) → Prop} (hf : p_X5_sheet la si it x1 x2 x3 post) : ctI l yX5_sheet wsX5_sheet ({ frames := 2, cells := 0, slots := 0, locals := 46 }) D k [.ref (a 0), .int x1, .int x2, .int x3] (wM k a mm nn we la si it be pa su wo le pp qq ro lo lp lq rp rq se no ne) (fun u : (Nat → Int32) × (Nat → Int32) × (Nat → Int32) => wM k a mm nn we (u.1) (u.2.1) (u.2.2) be pa su wo le pp qq ro lo lp lq rp rq se no ne) (fun (r : Int32) (u : (Nat → Int32) × (Nat → Int32) × (Nat → Int32)) => post r u.1 u.2.1 u.2.2) := by
  refine Met.ofW (cc := cX5_sheet) (maxL := 5) (ret := (some .int)) (by decide) rfl ?_
  intro p e s m args below meth c s₁ B hml hv
  obtain ⟨rfl, hP, hG, hD0⟩ := hv
  have C0 : xM p s m ([.ref (a 0), .int x1, .int x2, .int x3] : List Value).toArray meth c cX5_sheet 5 RX5 (some .int) wsX5_sheet := ⟨B.exec, B.bytes, B.returns, atoms_spec (ws := wsX5_sheet) B.pre, findClass_of_methodNamed B.named, B.notSynchronized, hml⟩
  obtain ⟨hx, hb, hr, hts, hown, hlocks, hml⟩ := id C0
  have hD := xSelf hD0
  have hS : va_S (xIn (wM k a mm nn we la si it be pa su wo le pp qq ro lo lp lq rp rq se no ne)) s.heap s.heap [] := va_S.rf
  generalize xIn (wM k a mm nn we la si it be pa su wo le pp qq ro lo lp lq rp rq se no ne) = A at hD hS ⊢
  have hl := lv_entry ([.ref (a 0), .int x1, .int x2, .int x3]) (n := 5) (Nat.le_of_ble_eq_true rfl)
  rw [lg_entry_eq]
  generalize (lg_sl ([.ref (a 0), .int x1, .int x2, .int x3]) ++ List.replicate (5 - (lg_sl ([.ref (a 0), .int x1, .int x2, .int x3])).length) Slot.unset).toArray = ls at hl ⊢
  have hl : lv_has ls 5 [(0, .ref (a 0)), (1, .int x1), (2, .int x2), (3, .int x3)] := hl
  unfold p_X5_sheet at hf
  refine lv_iload_n hx hb dX5_sheet_0 rfl (lv_at hl 1 rfl) ?_
  refine lv_iload_n hx hb dX5_sheet_1 rfl (lv_at hl 2 rfl) ?_
  have hp : xPerm (wM k a mm nn we la si it be pa su wo le pp qq ro lo lp lq rp rq se no ne) (([]) ++ (wM k a mm nn we la si it be pa su wo le pp qq ro lo lp lq rp rq se no ne)) := (List.Perm.refl _)
  refine xCallI (w := []) (r := wM k a mm nn we la si it be pa su wo le pp qq ro lo lp lq rp rq se no ne) (va_runS (As := [.int x1, .int x2]) (rest := []) ⟨hx, hb, hml, hown, hts⟩ (c_X5_isSheet x1 x2 hf) (va_cwS 2 hts gX5_sheet_X5_isSheet rfl rfl rfl (by decide +kernel) ⟨Nat.le_of_ble_eq_true rfl, Nat.le_of_ble_eq_true rfl⟩) (xPreS hG hP hD hp) rfl rfl hl.1 rfl (lv_room (Nat.le_of_ble_eq_true rfl)) dX5_sheet_2 ⟨Nat.zero_le _, Nat.zero_le _⟩) hP hD hS hp (fun _ => rfl) (fun r_1 _ H locs hf hP hD hS => ?_)
  have hP : va_P D vwCl (wM k a mm nn we la si it be pa su wo le pp qq ro lo lp lq rp rq se no ne) H := hP
  have hD : va_D A (wM k a mm nn we la si it be pa su wo le pp qq ro lo lp lq rp rq se no ne) := hD
  refine lv_if_eq (tgt := 14) hx hb dX5_sheet_5 (by decide) (fun c_2 => ?_) (fun c_2 => ?_)
  · have hf := hf.1 c_2
    refine lv_iconst (v := (-1)) hx hb dX5_sheet_14 (by decide) ?_
    exact W.iret (v := (-1)) hx hb hr (fun t ht hW => ⟨⟨((-1) : Int32), (la, si, it), rfl, hf, xHp ht hP⟩, hS.F ht⟩) hS.2.2 dX5_sheet_15 hlocks
  · have hf := hf.2 c_2
    refine lv_iload_n hx hb dX5_sheet_8 rfl (lv_at hl 3 rfl) ?_
    refine lv_bipush (v := 36) hx hb dX5_sheet_9 (by decide) ?_
    refine lv_icmp_le (tgt := 16) hx hb dX5_sheet_11 (by decide) (fun c_3 => ?_) (fun c_3 => ?_)
    · have hf := hf.1 c_3
      refine lv_iload_n hx hb dX5_sheet_16 rfl (lv_at hl 3 rfl) ?_
      refine lv_if_ge (tgt := 23) hx hb dX5_sheet_17 (by decide) (fun c_4 => ?_) (fun c_4 => ?_)
      · have hf := hf.1 c_4
        refine lv_aload_n hx hb dX5_sheet_23 rfl (lv_at hl 0 rfl) ?_
        refine va_get (D := D) (ci := 5) (C := RX5) (T := TX5) (N := 22) hx hb hts in_X5_sheet_X5 hown hG.1 hP 0 rfl rfl 3 (by decide) (hts _ lk_X5_sheet_20) (fun _ h9 => h9) rfl dX5_sheet_24 ?_
        refine lv_iload_n hx hb dX5_sheet_27 rfl (lv_at hl 1 rfl) ?_
        refine lv_iload_n hx hb dX5_sheet_28 rfl (lv_at hl 2 rfl) ?_
        obtain ⟨h_5, hf⟩ := hf
        refine va_iast hx hb hG.1 hP hD hS 2 0 rfl rfl h_5 dX5_sheet_29 (fun H locs hP hD hS => ?_)
        have hP : va_P D vwCl (wM k a mm nn we (upd la (x1.toNatClampNeg) x2) si it be pa su wo le pp qq ro lo lp lq rp rq se no ne) H := hP
        have hD : va_D A (wM k a mm nn we (upd la (x1.toNatClampNeg) x2) si it be pa su wo le pp qq ro lo lp lq rp rq se no ne) := hD
        refine lv_aload_n hx hb dX5_sheet_30 rfl (lv_at hl 0 rfl) ?_
        refine va_get (D := D) (ci := 5) (C := RX5) (T := TX5) (N := 22) hx hb hts in_X5_sheet_X5 hown hG.1 hP 0 rfl rfl 4 (by decide) (hts _ lk_X5_sheet_23) (fun _ h9 => h9) rfl dX5_sheet_31 ?_
        refine lv_iload_n hx hb dX5_sheet_34 rfl (lv_at hl 1 rfl) ?_
        refine lv_iload_n hx hb dX5_sheet_35 rfl (lv_at hl 3 rfl) ?_
        obtain ⟨h_6, hf⟩ := hf
        refine va_iast hx hb hG.1 hP hD hS 3 0 rfl rfl h_6 dX5_sheet_36 (fun H locs hP hD hS => ?_)
        have hP : va_P D vwCl (wM k a mm nn we (upd la (x1.toNatClampNeg) x2) (upd si (x1.toNatClampNeg) x3) it be pa su wo le pp qq ro lo lp lq rp rq se no ne) H := hP
        have hD : va_D A (wM k a mm nn we (upd la (x1.toNatClampNeg) x2) (upd si (x1.toNatClampNeg) x3) it be pa su wo le pp qq ro lo lp lq rp rq se no ne) := hD
        refine lv_iconst (v := 0) hx hb dX5_sheet_37 (by decide) ?_
        refine lv_istore (lv' := [(4, .int 0), (0, .ref (a 0)), (1, .int x1), (2, .int x2), (3, .int x3)]) hx hb dX5_sheet_38 hl (by decide) rfl (fun ls hl => ?_)
        obtain ⟨n_9, hf⟩ := hf
        exact k_X5_sheet_40 C0 hG n_9 (upd la (x1.toNatClampNeg) x2) (upd si (x1.toNatClampNeg) x3) it 0 _ _ _ hf hP hD hS (lv_sub hl [1, 2, 4, 0] rfl)
      · have hf := hf.2 c_4
        refine lv_bipush (v := (-14)) hx hb dX5_sheet_20 (by decide) ?_
        exact W.iret (v := (-14)) hx hb hr (fun t ht hW => ⟨⟨((-14) : Int32), (la, si, it), rfl, hf, xHp ht hP⟩, hS.F ht⟩) hS.2.2 dX5_sheet_22 hlocks
    · have hf := hf.2 c_3
      refine lv_iconst (v := (-1)) hx hb dX5_sheet_14 (by decide) ?_
      exact W.iret (v := (-1)) hx hb hr (fun t ht hW => ⟨⟨((-1) : Int32), (la, si, it), rfl, hf, xHp ht hP⟩, hS.F ht⟩) hS.2.2 dX5_sheet_15 hlocks

def p_X5_drop (la : Nat → Int32) (si : Nat → Int32) (x1 : Int32) (post : Int32 → (Nat → Int32) → Prop) : Prop := p_X5_in (x1.toInt64) 0 3 (fun r_1 => ((r_1 = 0 → post (-1) la) ∧ (¬ r_1 = 0 → (vp_in x1 4 ∧ ((0 ≤ (la x1.toNatClampNeg) → (vp_in x1 4 ∧ (vp_in x1 4 ∧ post (si x1.toNatClampNeg) (upd la (x1.toNatClampNeg) (-1))))) ∧ (¬ 0 ≤ (la x1.toNatClampNeg) → post (-11) la))))))
theorem in_X5_drop_X5 : ∀ w ∈ u_ws RX5 TX5 22, w ∈ wsX5_drop := by decide +kernel
theorem lk_X5_drop_20 : Cond.fieldLink RX5 20 "GrowingCornersModel" "lanes" "[I" ∈ wsX5_drop := by decide +kernel
theorem lk_X5_drop_23 : Cond.fieldLink RX5 23 "GrowingCornersModel" "sizes" "[I" ∈ wsX5_drop := by decide +kernel
theorem mb_X5_drop_cl88 : Cond.constantLong RX5 88 (3) ∈ wsX5_drop := by decide +kernel
set_option maxHeartbeats 4000000 in
set_option maxRecDepth 100000 in
theorem c_X5_drop {l : Launch} {D : va_G} {k : Nat → ClassId} (a : Nat → Nat) (mm : Int32) (nn : Int32) (we : Nat → Int32) (la : Nat → Int32) (si : Nat → Int32) (it : Nat → Int32) (be : Nat → Int32) (pa : Nat → Int32) (su : Nat → Int64) (wo : Nat → Int32) (le : Int32) (pp : Nat → Int32) (qq : Nat → Int32) (ro : Nat → Int32) (lo : Nat → Int32) (lp : Nat → Int32) (lq : Nat → Int32) (rp : Nat → Int32) (rq : Nat → Int32) (se : Nat → Int32) (no : Nat → Int64) (ne : Nat → Int64) (x1 : Int32) {post : Int32 → (Nat → Int32) → Prop} (hf : p_X5_drop la si x1 post) : ctI l yX5_drop wsX5_drop ({ frames := 1, cells := 0, slots := 0, locals := 25 }) D k [.ref (a 0), .int x1] (wM k a mm nn we la si it be pa su wo le pp qq ro lo lp lq rp rq se no ne) (fun u : (Nat → Int32) => wM k a mm nn we u si it be pa su wo le pp qq ro lo lp lq rp rq se no ne) (fun (r : Int32) (u : (Nat → Int32)) => post r u) := by
  refine Met.ofW (cc := cX5_drop) (maxL := 2) (ret := (some .int)) (by decide) rfl ?_
  intro p e s m args below meth c s₁ B hml hv
  obtain ⟨rfl, hP, hG, hD0⟩ := hv
  have C0 : xM p s m ([.ref (a 0), .int x1] : List Value).toArray meth c cX5_drop 2 RX5 (some .int) wsX5_drop := ⟨B.exec, B.bytes, B.returns, atoms_spec (ws := wsX5_drop) B.pre, findClass_of_methodNamed B.named, B.notSynchronized, hml⟩
  obtain ⟨hx, hb, hr, hts, hown, hlocks, hml⟩ := id C0
  have hD := xSelf hD0
  have hS : va_S (xIn (wM k a mm nn we la si it be pa su wo le pp qq ro lo lp lq rp rq se no ne)) s.heap s.heap [] := va_S.rf
  generalize xIn (wM k a mm nn we la si it be pa su wo le pp qq ro lo lp lq rp rq se no ne) = A at hD hS ⊢
  have hl := lv_entry ([.ref (a 0), .int x1]) (n := 2) (Nat.le_of_ble_eq_true rfl)
  rw [lg_entry_eq]
  generalize (lg_sl ([.ref (a 0), .int x1]) ++ List.replicate (2 - (lg_sl ([.ref (a 0), .int x1])).length) Slot.unset).toArray = ls at hl ⊢
  have hl : lv_has ls 2 [(0, .ref (a 0)), (1, .int x1)] := hl
  unfold p_X5_drop at hf
  refine lv_iload_n hx hb dX5_drop_0 rfl (lv_at hl 1 rfl) ?_
  refine lv_i2l (v := x1.toInt64) hx hb dX5_drop_1 rfl ?_
  refine lv_lconst (v := 0) hx hb dX5_drop_2 (by decide) ?_
  refine lv_ldc2 (v := 3) hx hb hown (hts _ mb_X5_drop_cl88) dX5_drop_3 ?_
  have hp : xPerm (wM k a mm nn we la si it be pa su wo le pp qq ro lo lp lq rp rq se no ne) (([]) ++ (wM k a mm nn we la si it be pa su wo le pp qq ro lo lp lq rp rq se no ne)) := (List.Perm.refl _)
  refine xCallI (w := []) (r := wM k a mm nn we la si it be pa su wo le pp qq ro lo lp lq rp rq se no ne) (va_runS (As := [.long (x1.toInt64), .long 0, .long 3]) (rest := []) ⟨hx, hb, hml, hown, hts⟩ (c_X5_in (x1.toInt64) 0 3 hf) (va_cwS 3 hts gX5_drop_X5_in rfl rfl rfl (by decide +kernel) ⟨Nat.le_of_ble_eq_true rfl, Nat.le_of_ble_eq_true rfl⟩) (xPreS hG hP hD hp) rfl rfl hl.1 rfl (lv_room (Nat.le_of_ble_eq_true rfl)) dX5_drop_6 ⟨Nat.zero_le _, Nat.zero_le _⟩) hP hD hS hp (fun _ => rfl) (fun r_1 _ H locs hf hP hD hS => ?_)
  have hP : va_P D vwCl (wM k a mm nn we la si it be pa su wo le pp qq ro lo lp lq rp rq se no ne) H := hP
  have hD : va_D A (wM k a mm nn we la si it be pa su wo le pp qq ro lo lp lq rp rq se no ne) := hD
  refine lv_if_ne (tgt := 14) hx hb dX5_drop_9 (by decide) (fun c_2 => ?_) (fun c_2 => ?_)
  · have hf := hf.2 c_2
    refine lv_aload_n hx hb dX5_drop_14 rfl (lv_at hl 0 rfl) ?_
    refine va_get (D := D) (ci := 5) (C := RX5) (T := TX5) (N := 22) hx hb hts in_X5_drop_X5 hown hG.1 hP 0 rfl rfl 3 (by decide) (hts _ lk_X5_drop_20) (fun _ h9 => h9) rfl dX5_drop_15 ?_
    refine lv_iload_n hx hb dX5_drop_18 rfl (lv_at hl 1 rfl) ?_
    obtain ⟨h_3, hf⟩ := hf
    refine va_iald hx hb hG.1 hP 2 0 rfl rfl h_3 dX5_drop_19 ?_
    refine lv_if_ge (tgt := 26) hx hb dX5_drop_20 (by decide) (fun c_4 => ?_) (fun c_4 => ?_)
    · have hf := hf.1 c_4
      refine lv_aload_n hx hb dX5_drop_26 rfl (lv_at hl 0 rfl) ?_
      refine va_get (D := D) (ci := 5) (C := RX5) (T := TX5) (N := 22) hx hb hts in_X5_drop_X5 hown hG.1 hP 0 rfl rfl 3 (by decide) (hts _ lk_X5_drop_20) (fun _ h9 => h9) rfl dX5_drop_27 ?_
      refine lv_iload_n hx hb dX5_drop_30 rfl (lv_at hl 1 rfl) ?_
      refine lv_iconst (v := (-1)) hx hb dX5_drop_31 (by decide) ?_
      obtain ⟨h_5, hf⟩ := hf
      refine va_iast hx hb hG.1 hP hD hS 2 0 rfl rfl h_5 dX5_drop_32 (fun H locs hP hD hS => ?_)
      have hP : va_P D vwCl (wM k a mm nn we (upd la (x1.toNatClampNeg) (-1)) si it be pa su wo le pp qq ro lo lp lq rp rq se no ne) H := hP
      have hD : va_D A (wM k a mm nn we (upd la (x1.toNatClampNeg) (-1)) si it be pa su wo le pp qq ro lo lp lq rp rq se no ne) := hD
      refine lv_aload_n hx hb dX5_drop_33 rfl (lv_at hl 0 rfl) ?_
      refine va_get (D := D) (ci := 5) (C := RX5) (T := TX5) (N := 22) hx hb hts in_X5_drop_X5 hown hG.1 hP 0 rfl rfl 4 (by decide) (hts _ lk_X5_drop_23) (fun _ h9 => h9) rfl dX5_drop_34 ?_
      refine lv_iload_n hx hb dX5_drop_37 rfl (lv_at hl 1 rfl) ?_
      obtain ⟨h_6, hf⟩ := hf
      refine va_iald hx hb hG.1 hP 3 0 rfl rfl h_6 dX5_drop_38 ?_
      exact W.iret (v := (si x1.toNatClampNeg)) hx hb hr (fun t ht hW => ⟨⟨(si x1.toNatClampNeg), (upd la (x1.toNatClampNeg) (-1)), rfl, hf, xHp ht hP⟩, hS.F ht⟩) hS.2.2 dX5_drop_39 hlocks
    · have hf := hf.2 c_4
      refine lv_bipush (v := (-11)) hx hb dX5_drop_23 (by decide) ?_
      exact W.iret (v := (-11)) hx hb hr (fun t ht hW => ⟨⟨((-11) : Int32), la, rfl, hf, xHp ht hP⟩, hS.F ht⟩) hS.2.2 dX5_drop_25 hlocks
  · have hf := hf.1 c_2
    refine lv_iconst (v := (-1)) hx hb dX5_drop_12 (by decide) ?_
    exact W.iret (v := (-1)) hx hb hr (fun t ht hW => ⟨⟨((-1) : Int32), la, rfl, hf, xHp ht hP⟩, hS.F ht⟩) hS.2.2 dX5_drop_13 hlocks

def p_X5_item (la : Nat → Int32) (si : Nat → Int32) (it : Nat → Int32) (x1 : Int32) (x2 : Int32) (x3 : Int32) (x4 : Int32) (post : Int32 → (Nat → Int32) → Prop) : Prop := p_X5_isSheet x1 x2 (fun r_1 => ((r_1 = 0 → post (-1) it) ∧ (¬ r_1 = 0 → (vp_in x1 4 ∧ (((la x1.toNatClampNeg) = x2 → (vp_in x1 4 ∧ p_X5_in (x3.toInt64) 0 (((si x1.toNatClampNeg) - 1).toInt64) (fun r_6 => ((r_6 = 0 → post (-13) it) ∧ (¬ r_6 = 0 → (vp_in ((36 * x1) + x3) 144 ∧ post 1 (upd it (((36 * x1) + x3).toNatClampNeg) x4))))))) ∧ (¬ (la x1.toNatClampNeg) = x2 → (vp_in x1 4 ∧ ((0 ≤ (la x1.toNatClampNeg) → post (-12) it) ∧ (¬ 0 ≤ (la x1.toNatClampNeg) → post (-11) it)))))))))
theorem in_X5_item_X5 : ∀ w ∈ u_ws RX5 TX5 22, w ∈ wsX5_item := by decide +kernel
theorem lk_X5_item_20 : Cond.fieldLink RX5 20 "GrowingCornersModel" "lanes" "[I" ∈ wsX5_item := by decide +kernel
theorem lk_X5_item_23 : Cond.fieldLink RX5 23 "GrowingCornersModel" "sizes" "[I" ∈ wsX5_item := by decide +kernel
theorem lk_X5_item_26 : Cond.fieldLink RX5 26 "GrowingCornersModel" "items" "[I" ∈ wsX5_item := by decide +kernel
set_option maxHeartbeats 4000000 in
set_option maxRecDepth 100000 in
theorem c_X5_item {l : Launch} {D : va_G} {k : Nat → ClassId} (a : Nat → Nat) (mm : Int32) (nn : Int32) (we : Nat → Int32) (la : Nat → Int32) (si : Nat → Int32) (it : Nat → Int32) (be : Nat → Int32) (pa : Nat → Int32) (su : Nat → Int64) (wo : Nat → Int32) (le : Int32) (pp : Nat → Int32) (qq : Nat → Int32) (ro : Nat → Int32) (lo : Nat → Int32) (lp : Nat → Int32) (lq : Nat → Int32) (rp : Nat → Int32) (rq : Nat → Int32) (se : Nat → Int32) (no : Nat → Int64) (ne : Nat → Int64) (x1 : Int32) (x2 : Int32) (x3 : Int32) (x4 : Int32) {post : Int32 → (Nat → Int32) → Prop} (hf : p_X5_item la si it x1 x2 x3 x4 post) : ctI l yX5_item wsX5_item ({ frames := 2, cells := 0, slots := 0, locals := 46 }) D k [.ref (a 0), .int x1, .int x2, .int x3, .int x4] (wM k a mm nn we la si it be pa su wo le pp qq ro lo lp lq rp rq se no ne) (fun u : (Nat → Int32) => wM k a mm nn we la si u be pa su wo le pp qq ro lo lp lq rp rq se no ne) (fun (r : Int32) (u : (Nat → Int32)) => post r u) := by
  refine Met.ofW (cc := cX5_item) (maxL := 5) (ret := (some .int)) (by decide) rfl ?_
  intro p e s m args below meth c s₁ B hml hv
  obtain ⟨rfl, hP, hG, hD0⟩ := hv
  have C0 : xM p s m ([.ref (a 0), .int x1, .int x2, .int x3, .int x4] : List Value).toArray meth c cX5_item 5 RX5 (some .int) wsX5_item := ⟨B.exec, B.bytes, B.returns, atoms_spec (ws := wsX5_item) B.pre, findClass_of_methodNamed B.named, B.notSynchronized, hml⟩
  obtain ⟨hx, hb, hr, hts, hown, hlocks, hml⟩ := id C0
  have hD := xSelf hD0
  have hS : va_S (xIn (wM k a mm nn we la si it be pa su wo le pp qq ro lo lp lq rp rq se no ne)) s.heap s.heap [] := va_S.rf
  generalize xIn (wM k a mm nn we la si it be pa su wo le pp qq ro lo lp lq rp rq se no ne) = A at hD hS ⊢
  have hl := lv_entry ([.ref (a 0), .int x1, .int x2, .int x3, .int x4]) (n := 5) (Nat.le_of_ble_eq_true rfl)
  rw [lg_entry_eq]
  generalize (lg_sl ([.ref (a 0), .int x1, .int x2, .int x3, .int x4]) ++ List.replicate (5 - (lg_sl ([.ref (a 0), .int x1, .int x2, .int x3, .int x4])).length) Slot.unset).toArray = ls at hl ⊢
  have hl : lv_has ls 5 [(0, .ref (a 0)), (1, .int x1), (2, .int x2), (3, .int x3), (4, .int x4)] := hl
  unfold p_X5_item at hf
  refine lv_iload_n hx hb dX5_item_0 rfl (lv_at hl 1 rfl) ?_
  refine lv_iload_n hx hb dX5_item_1 rfl (lv_at hl 2 rfl) ?_
  have hp : xPerm (wM k a mm nn we la si it be pa su wo le pp qq ro lo lp lq rp rq se no ne) (([]) ++ (wM k a mm nn we la si it be pa su wo le pp qq ro lo lp lq rp rq se no ne)) := (List.Perm.refl _)
  refine xCallI (w := []) (r := wM k a mm nn we la si it be pa su wo le pp qq ro lo lp lq rp rq se no ne) (va_runS (As := [.int x1, .int x2]) (rest := []) ⟨hx, hb, hml, hown, hts⟩ (c_X5_isSheet x1 x2 hf) (va_cwS 2 hts gX5_item_X5_isSheet rfl rfl rfl (by decide +kernel) ⟨Nat.le_of_ble_eq_true rfl, Nat.le_of_ble_eq_true rfl⟩) (xPreS hG hP hD hp) rfl rfl hl.1 rfl (lv_room (Nat.le_of_ble_eq_true rfl)) dX5_item_2 ⟨Nat.zero_le _, Nat.zero_le _⟩) hP hD hS hp (fun _ => rfl) (fun r_1 _ H locs hf hP hD hS => ?_)
  have hP : va_P D vwCl (wM k a mm nn we la si it be pa su wo le pp qq ro lo lp lq rp rq se no ne) H := hP
  have hD : va_D A (wM k a mm nn we la si it be pa su wo le pp qq ro lo lp lq rp rq se no ne) := hD
  refine lv_if_ne (tgt := 10) hx hb dX5_item_5 (by decide) (fun c_2 => ?_) (fun c_2 => ?_)
  · have hf := hf.2 c_2
    refine lv_aload_n hx hb dX5_item_10 rfl (lv_at hl 0 rfl) ?_
    refine va_get (D := D) (ci := 5) (C := RX5) (T := TX5) (N := 22) hx hb hts in_X5_item_X5 hown hG.1 hP 0 rfl rfl 3 (by decide) (hts _ lk_X5_item_20) (fun _ h9 => h9) rfl dX5_item_11 ?_
    refine lv_iload_n hx hb dX5_item_14 rfl (lv_at hl 1 rfl) ?_
    obtain ⟨h_3, hf⟩ := hf
    refine va_iald hx hb hG.1 hP 2 0 rfl rfl h_3 dX5_item_15 ?_
    refine lv_iload_n hx hb dX5_item_16 rfl (lv_at hl 2 rfl) ?_
    refine lv_icmp_eq (tgt := 37) hx hb dX5_item_17 (by decide) (fun c_4 => ?_) (fun c_4 => ?_)
    · have hf := hf.1 c_4
      refine lv_iload_n hx hb dX5_item_37 rfl (lv_at hl 3 rfl) ?_
      refine lv_i2l (v := x3.toInt64) hx hb dX5_item_38 rfl ?_
      refine lv_lconst (v := 0) hx hb dX5_item_39 (by decide) ?_
      refine lv_aload_n hx hb dX5_item_40 rfl (lv_at hl 0 rfl) ?_
      refine va_get (D := D) (ci := 5) (C := RX5) (T := TX5) (N := 22) hx hb hts in_X5_item_X5 hown hG.1 hP 0 rfl rfl 4 (by decide) (hts _ lk_X5_item_23) (fun _ h9 => h9) rfl dX5_item_41 ?_
      refine lv_iload_n hx hb dX5_item_44 rfl (lv_at hl 1 rfl) ?_
      obtain ⟨h_5, hf⟩ := hf
      refine va_iald hx hb hG.1 hP 3 0 rfl rfl h_5 dX5_item_45 ?_
      refine lv_iconst (v := 1) hx hb dX5_item_46 (by decide) ?_
      refine lv_isub hx hb dX5_item_47 ?_
      refine lv_i2l (v := ((si x1.toNatClampNeg) - 1).toInt64) hx hb dX5_item_48 rfl ?_
      have hp : xPerm (wM k a mm nn we la si it be pa su wo le pp qq ro lo lp lq rp rq se no ne) (([]) ++ (wM k a mm nn we la si it be pa su wo le pp qq ro lo lp lq rp rq se no ne)) := (List.Perm.refl _)
      refine xCallI (w := []) (r := wM k a mm nn we la si it be pa su wo le pp qq ro lo lp lq rp rq se no ne) (va_runS (As := [.long (x3.toInt64), .long 0, .long (((si x1.toNatClampNeg) - 1).toInt64)]) (rest := []) ⟨hx, hb, hml, hown, hts⟩ (c_X5_in (x3.toInt64) 0 (((si x1.toNatClampNeg) - 1).toInt64) hf) (va_cwS 3 hts gX5_item_X5_in rfl rfl rfl (by decide +kernel) ⟨Nat.le_of_ble_eq_true rfl, Nat.le_of_ble_eq_true rfl⟩) (xPreS hG hP hD hp) rfl rfl hl.1 rfl (lv_room (Nat.le_of_ble_eq_true rfl)) dX5_item_49 ⟨Nat.zero_le _, Nat.zero_le _⟩) hP hD hS hp (fun _ => rfl) (fun r_6 _ H locs hf hP hD hS => ?_)
      have hP : va_P D vwCl (wM k a mm nn we la si it be pa su wo le pp qq ro lo lp lq rp rq se no ne) H := hP
      have hD : va_D A (wM k a mm nn we la si it be pa su wo le pp qq ro lo lp lq rp rq se no ne) := hD
      refine lv_if_ne (tgt := 58) hx hb dX5_item_52 (by decide) (fun c_7 => ?_) (fun c_7 => ?_)
      · have hf := hf.2 c_7
        refine lv_aload_n hx hb dX5_item_58 rfl (lv_at hl 0 rfl) ?_
        refine va_get (D := D) (ci := 5) (C := RX5) (T := TX5) (N := 22) hx hb hts in_X5_item_X5 hown hG.1 hP 0 rfl rfl 5 (by decide) (hts _ lk_X5_item_26) (fun _ h9 => h9) rfl dX5_item_59 ?_
        refine lv_bipush (v := 36) hx hb dX5_item_62 (by decide) ?_
        refine lv_iload_n hx hb dX5_item_64 rfl (lv_at hl 1 rfl) ?_
        refine lv_imul hx hb dX5_item_65 ?_
        refine lv_iload_n hx hb dX5_item_66 rfl (lv_at hl 3 rfl) ?_
        refine lv_iadd hx hb dX5_item_67 ?_
        refine lv_iload hx hb dX5_item_68 (lv_at hl 4 rfl) ?_
        obtain ⟨h_8, hf⟩ := hf
        refine va_iast hx hb hG.1 hP hD hS 4 0 rfl rfl h_8 dX5_item_70 (fun H locs hP hD hS => ?_)
        have hP : va_P D vwCl (wM k a mm nn we la si (upd it (((36 * x1) + x3).toNatClampNeg) x4) be pa su wo le pp qq ro lo lp lq rp rq se no ne) H := hP
        have hD : va_D A (wM k a mm nn we la si (upd it (((36 * x1) + x3).toNatClampNeg) x4) be pa su wo le pp qq ro lo lp lq rp rq se no ne) := hD
        refine lv_iconst (v := 1) hx hb dX5_item_71 (by decide) ?_
        exact W.iret (v := 1) hx hb hr (fun t ht hW => ⟨⟨(1 : Int32), (upd it (((36 * x1) + x3).toNatClampNeg) x4), rfl, hf, xHp ht hP⟩, hS.F ht⟩) hS.2.2 dX5_item_72 hlocks
      · have hf := hf.1 c_7
        refine lv_bipush (v := (-13)) hx hb dX5_item_55 (by decide) ?_
        exact W.iret (v := (-13)) hx hb hr (fun t ht hW => ⟨⟨((-13) : Int32), it, rfl, hf, xHp ht hP⟩, hS.F ht⟩) hS.2.2 dX5_item_57 hlocks
    · have hf := hf.2 c_4
      refine lv_aload_n hx hb dX5_item_20 rfl (lv_at hl 0 rfl) ?_
      refine va_get (D := D) (ci := 5) (C := RX5) (T := TX5) (N := 22) hx hb hts in_X5_item_X5 hown hG.1 hP 0 rfl rfl 3 (by decide) (hts _ lk_X5_item_20) (fun _ h9 => h9) rfl dX5_item_21 ?_
      refine lv_iload_n hx hb dX5_item_24 rfl (lv_at hl 1 rfl) ?_
      obtain ⟨h_9, hf⟩ := hf
      refine va_iald hx hb hG.1 hP 2 0 rfl rfl h_9 dX5_item_25 ?_
      refine lv_if_ge (tgt := 34) hx hb dX5_item_26 (by decide) (fun c_10 => ?_) (fun c_10 => ?_)
      · have hf := hf.1 c_10
        refine lv_bipush (v := (-12)) hx hb dX5_item_34 (by decide) ?_
        exact W.iret (v := (-12)) hx hb hr (fun t ht hW => ⟨⟨((-12) : Int32), it, rfl, hf, xHp ht hP⟩, hS.F ht⟩) hS.2.2 dX5_item_36 hlocks
      · have hf := hf.2 c_10
        refine lv_bipush (v := (-11)) hx hb dX5_item_29 (by decide) ?_
        refine lv_goto (tgt := 36) hx hb dX5_item_31 (by decide) ?_
        exact W.iret (v := (-11)) hx hb hr (fun t ht hW => ⟨⟨((-11) : Int32), it, rfl, hf, xHp ht hP⟩, hS.F ht⟩) hS.2.2 dX5_item_36 hlocks
  · have hf := hf.1 c_2
    refine lv_iconst (v := (-1)) hx hb dX5_item_8 (by decide) ?_
    exact W.iret (v := (-1)) hx hb hr (fun t ht hW => ⟨⟨((-1) : Int32), it, rfl, hf, xHp ht hP⟩, hS.F ht⟩) hS.2.2 dX5_item_9 hlocks

def p_X5_weights_142 (mm : Int32) (nn : Int32) (la : Nat → Int32) (si : Nat → Int32) (it : Nat → Int32) (x1 : Int32) (x2 : Int32) (x3 : Int32) (post : Int32 → (Nat → Int32) → Prop) : Nat → (Nat → Int32) → Int32 → Int32 → Int32 → Prop
  | 0, _, _, _, _ => False
  | n + 1, we, x4, x5, x6 => (((mm * nn) ≤ x6 → post x4 we) ∧ (¬ (mm * nn) ≤ x6 → (¬ nn = 0 ∧ (¬ nn = 0 ∧ (vp_in (x5 + x6) 144 ∧ (vp_in ((6 * (x6 / nn)) + (x6 - x6 / nn * nn)) 36 ∧ p_X5_weights_142 mm nn la si it x1 x2 x3 post n (upd we (((6 * (x6 / nn)) + (x6 - x6 / nn * nn)).toNatClampNeg) (it (x5 + x6).toNatClampNeg)) x4 x5 (x6 + 1)))))))
def p_X5_weights_80 (mm : Int32) (nn : Int32) (la : Nat → Int32) (si : Nat → Int32) (it : Nat → Int32) (x1 : Int32) (x2 : Int32) (x3 : Int32) (post : Int32 → (Nat → Int32) → Prop) : Nat → (Nat → Int32) → Int32 → Int32 → Int32 → Prop
  | 0, _, _, _, _ => False
  | n + 1, we, x4, x5, x6 => (((mm * nn) ≤ x6 → (∃ n_14, p_X5_weights_142 mm nn la si it x1 x2 x3 post n_14 we x4 x5 0)) ∧ (¬ (mm * nn) ≤ x6 → (vp_in (x5 + x6) 144 ∧ p_X5_in ((it (x5 + x6).toNatClampNeg).toInt64) 0 20 (fun r_16 => ((r_16 = 0 → post (-2) we) ∧ (¬ r_16 = 0 → (vp_in (x5 + x6) 144 ∧ p_X5_weights_80 mm nn la si it x1 x2 x3 post n we (x4 + (it (x5 + x6).toNatClampNeg)) x5 (x6 + 1))))))))
def p_X5_weights (mm : Int32) (nn : Int32) (we : Nat → Int32) (la : Nat → Int32) (si : Nat → Int32) (it : Nat → Int32) (x1 : Int32) (x2 : Int32) (x3 : Int32) (post : Int32 → (Nat → Int32) → Prop) : Prop := p_X5_isSheet x1 x2 (fun r_1 => ((r_1 = 0 → post (-1) we) ∧ (¬ r_1 = 0 → (vp_in x1 4 ∧ (((la x1.toNatClampNeg) = x2 → (vp_in x1 4 ∧ p_X5_in (x3.toInt64) 0 (((si x1.toNatClampNeg) - (mm * nn)).toInt64) (fun r_6 => ((r_6 = 0 → post (-13) we) ∧ (¬ r_6 = 0 → (∃ n_19, p_X5_weights_80 mm nn la si it x1 x2 x3 post n_19 we 0 ((36 * x1) + x3) 0)))))) ∧ (¬ (la x1.toNatClampNeg) = x2 → (vp_in x1 4 ∧ ((0 ≤ (la x1.toNatClampNeg) → post (-12) we) ∧ (¬ 0 ≤ (la x1.toNatClampNeg) → post (-11) we)))))))))
theorem in_X5_weights_X5 : ∀ w ∈ u_ws RX5 TX5 22, w ∈ wsX5_weights := by decide +kernel
theorem lk_X5_weights_13 : Cond.fieldLink RX5 13 "GrowingCornersModel" "n" "I" ∈ wsX5_weights := by decide +kernel
theorem lk_X5_weights_16 : Cond.fieldLink RX5 16 "GrowingCornersModel" "weights" "[I" ∈ wsX5_weights := by decide +kernel
theorem lk_X5_weights_20 : Cond.fieldLink RX5 20 "GrowingCornersModel" "lanes" "[I" ∈ wsX5_weights := by decide +kernel
theorem lk_X5_weights_23 : Cond.fieldLink RX5 23 "GrowingCornersModel" "sizes" "[I" ∈ wsX5_weights := by decide +kernel
theorem lk_X5_weights_26 : Cond.fieldLink RX5 26 "GrowingCornersModel" "items" "[I" ∈ wsX5_weights := by decide +kernel
theorem lk_X5_weights_7 : Cond.fieldLink RX5 7 "GrowingCornersModel" "m" "I" ∈ wsX5_weights := by decide +kernel
theorem mb_X5_weights_cl86 : Cond.constantLong RX5 86 (20) ∈ wsX5_weights := by decide +kernel
set_option maxHeartbeats 4000000 in
set_option maxRecDepth 100000 in
theorem k_X5_weights_142 {p : Program} {l : Launch} {e : Env} {s : State} {m : MethodId} {args : Array Value} {below : List Frame} {meth : Method} {c : Code} {A : Nat → Prop} {D : va_G} {k : Nat → ClassId} {a : Nat → Nat} {mm : Int32} {nn : Int32} {la : Nat → Int32} {si : Nat → Int32} {it : Nat → Int32} {be : Nat → Int32} {pa : Nat → Int32} {su : Nat → Int64} {wo : Nat → Int32} {le : Int32} {pp : Nat → Int32} {qq : Nat → Int32} {ro : Nat → Int32} {lo : Nat → Int32} {lp : Nat → Int32} {lq : Nat → Int32} {rp : Nat → Int32} {rq : Nat → Int32} {se : Nat → Int32} {no : Nat → Int64} {ne : Nat → Int64} {x1 : Int32} {x2 : Int32} {x3 : Int32} (C0 : xM p s m args meth c cX5_weights 7 RX5 (some .int) wsX5_weights) (hG : xG D k s) {post : Int32 → (Nat → Int32) → Prop} : ∀ (n : Nat) (we : Nat → Int32) (x4 : Int32) (x5 : Int32) (x6 : Int32) (H : Heap) (locs : List Loc) (ls : Array Slot), p_X5_weights_142 mm nn la si it x1 x2 x3 post n we x4 x5 x6 → va_P D vwCl (wM k a mm nn we la si it be pa su wo le pp qq ro lo lp lq rp rq se no ne) H → va_D A (wM k a mm nn we la si it be pa su wo le pp qq ro lo lp lq rp rq se no ne) → va_S A s.heap H locs → lv_has ls 7 [(0, .ref (a 0)), (4, .int x4), (5, .int x5), (6, .int x6)] → W p l e ({ frames := 2, cells := 0, slots := 0, locals := 46 }) s m args below meth c H locs 0 0 (MQ below (va_Qi (fun (r : Int32) (u : (Nat → Int32)) => post r u) (fun u t => va_P D vwCl (wM k a mm nn u la si it be pa su wo le pp qq ro lo lp lq rp rq se no ne) t.heap) A) args s 0 0 A) (F0 m 142 ls []) := by
  obtain ⟨hx, hb, hr, hts, hown, hlocks, hml⟩ := id C0
  intro n
  induction n with
  | zero =>
    intro we x4 x5 x6 H locs ls hf
    exact False.elim hf
  | succ n ih =>
    intro we x4 x5 x6 H locs ls hf hP hD hS hl
    unfold p_X5_weights_142 at hf
    refine lv_iload hx hb dX5_weights_142 (lv_at hl 3 rfl) ?_
    refine lv_aload_n hx hb dX5_weights_144 rfl (lv_at hl 0 rfl) ?_
    refine va_get (D := D) (ci := 5) (C := RX5) (T := TX5) (N := 22) hx hb hts in_X5_weights_X5 hown hG.1 hP 0 rfl rfl 0 (by decide) (hts _ lk_X5_weights_7) (fun _ h9 => h9) rfl dX5_weights_145 ?_
    refine lv_aload_n hx hb dX5_weights_148 rfl (lv_at hl 0 rfl) ?_
    refine va_get (D := D) (ci := 5) (C := RX5) (T := TX5) (N := 22) hx hb hts in_X5_weights_X5 hown hG.1 hP 0 rfl rfl 1 (by decide) (hts _ lk_X5_weights_13) (fun _ h9 => h9) rfl dX5_weights_149 ?_
    refine lv_imul hx hb dX5_weights_152 ?_
    refine lv_icmp_ge (tgt := 195) hx hb dX5_weights_153 (by decide) (fun c_9 => ?_) (fun c_9 => ?_)
    · have hf := hf.1 c_9
      refine lv_iload hx hb dX5_weights_195 (lv_at hl 1 rfl) ?_
      exact W.iret (v := x4) hx hb hr (fun t ht hW => ⟨⟨x4, we, rfl, hf, xHp ht hP⟩, hS.F ht⟩) hS.2.2 dX5_weights_197 hlocks
    · have hf := hf.2 c_9
      refine lv_aload_n hx hb dX5_weights_156 rfl (lv_at hl 0 rfl) ?_
      refine va_get (D := D) (ci := 5) (C := RX5) (T := TX5) (N := 22) hx hb hts in_X5_weights_X5 hown hG.1 hP 0 rfl rfl 2 (by decide) (hts _ lk_X5_weights_16) (fun _ h9 => h9) rfl dX5_weights_157 ?_
      refine lv_bipush (v := 6) hx hb dX5_weights_160 (by decide) ?_
      refine lv_iload hx hb dX5_weights_162 (lv_at hl 3 rfl) ?_
      refine lv_aload_n hx hb dX5_weights_164 rfl (lv_at hl 0 rfl) ?_
      refine va_get (D := D) (ci := 5) (C := RX5) (T := TX5) (N := 22) hx hb hts in_X5_weights_X5 hown hG.1 hP 0 rfl rfl 1 (by decide) (hts _ lk_X5_weights_13) (fun _ h9 => h9) rfl dX5_weights_165 ?_
      obtain ⟨h_10, hf⟩ := hf
      refine lv_idiv hx hb dX5_weights_168 h_10 ?_
      refine lv_imul hx hb dX5_weights_169 ?_
      refine lv_iload hx hb dX5_weights_170 (lv_at hl 3 rfl) ?_
      refine lv_aload_n hx hb dX5_weights_172 rfl (lv_at hl 0 rfl) ?_
      refine va_get (D := D) (ci := 5) (C := RX5) (T := TX5) (N := 22) hx hb hts in_X5_weights_X5 hown hG.1 hP 0 rfl rfl 1 (by decide) (hts _ lk_X5_weights_13) (fun _ h9 => h9) rfl dX5_weights_173 ?_
      obtain ⟨h_11, hf⟩ := hf
      refine lv_irem hx hb dX5_weights_176 h_11 ?_
      refine lv_iadd hx hb dX5_weights_177 ?_
      refine lv_aload_n hx hb dX5_weights_178 rfl (lv_at hl 0 rfl) ?_
      refine va_get (D := D) (ci := 5) (C := RX5) (T := TX5) (N := 22) hx hb hts in_X5_weights_X5 hown hG.1 hP 0 rfl rfl 5 (by decide) (hts _ lk_X5_weights_26) (fun _ h9 => h9) rfl dX5_weights_179 ?_
      refine lv_iload hx hb dX5_weights_182 (lv_at hl 2 rfl) ?_
      refine lv_iload hx hb dX5_weights_184 (lv_at hl 3 rfl) ?_
      refine lv_iadd hx hb dX5_weights_186 ?_
      obtain ⟨h_12, hf⟩ := hf
      refine va_iald hx hb hG.1 hP 4 0 rfl rfl h_12 dX5_weights_187 ?_
      obtain ⟨h_13, hf⟩ := hf
      refine va_iast hx hb hG.1 hP hD hS 1 0 rfl rfl h_13 dX5_weights_188 (fun H locs hP hD hS => ?_)
      have hP : va_P D vwCl (wM k a mm nn (upd we (((6 * (x6 / nn)) + (x6 - x6 / nn * nn)).toNatClampNeg) (it (x5 + x6).toNatClampNeg)) la si it be pa su wo le pp qq ro lo lp lq rp rq se no ne) H := hP
      have hD : va_D A (wM k a mm nn (upd we (((6 * (x6 / nn)) + (x6 - x6 / nn * nn)).toNatClampNeg) (it (x5 + x6).toNatClampNeg)) la si it be pa su wo le pp qq ro lo lp lq rp rq se no ne) := hD
      refine lv_iinc (v := x6 + 1) (lv' := [(6, .int (x6 + 1)), (0, .ref (a 0)), (4, .int x4), (5, .int x5)]) hx hb dX5_weights_189 hl (k := 3) rfl rfl (by decide) rfl (fun ls hl => ?_)
      refine lv_goto (tgt := 142) hx hb dX5_weights_192 (by decide) ?_
      exact ih (upd we (((6 * (x6 / nn)) + (x6 - x6 / nn * nn)).toNatClampNeg) (it (x5 + x6).toNatClampNeg)) x4 x5 (x6 + 1) _ _ _ hf hP hD hS (lv_sub hl [1, 2, 3, 0] rfl)
set_option maxHeartbeats 4000000 in
set_option maxRecDepth 100000 in
theorem k_X5_weights_80 {p : Program} {l : Launch} {e : Env} {s : State} {m : MethodId} {args : Array Value} {below : List Frame} {meth : Method} {c : Code} {A : Nat → Prop} {D : va_G} {k : Nat → ClassId} {a : Nat → Nat} {mm : Int32} {nn : Int32} {la : Nat → Int32} {si : Nat → Int32} {it : Nat → Int32} {be : Nat → Int32} {pa : Nat → Int32} {su : Nat → Int64} {wo : Nat → Int32} {le : Int32} {pp : Nat → Int32} {qq : Nat → Int32} {ro : Nat → Int32} {lo : Nat → Int32} {lp : Nat → Int32} {lq : Nat → Int32} {rp : Nat → Int32} {rq : Nat → Int32} {se : Nat → Int32} {no : Nat → Int64} {ne : Nat → Int64} {x1 : Int32} {x2 : Int32} {x3 : Int32} (C0 : xM p s m args meth c cX5_weights 7 RX5 (some .int) wsX5_weights) (hG : xG D k s) {post : Int32 → (Nat → Int32) → Prop} : ∀ (n : Nat) (we : Nat → Int32) (x4 : Int32) (x5 : Int32) (x6 : Int32) (H : Heap) (locs : List Loc) (ls : Array Slot), p_X5_weights_80 mm nn la si it x1 x2 x3 post n we x4 x5 x6 → va_P D vwCl (wM k a mm nn we la si it be pa su wo le pp qq ro lo lp lq rp rq se no ne) H → va_D A (wM k a mm nn we la si it be pa su wo le pp qq ro lo lp lq rp rq se no ne) → va_S A s.heap H locs → lv_has ls 7 [(0, .ref (a 0)), (4, .int x4), (5, .int x5), (6, .int x6)] → W p l e ({ frames := 2, cells := 0, slots := 0, locals := 46 }) s m args below meth c H locs 0 0 (MQ below (va_Qi (fun (r : Int32) (u : (Nat → Int32)) => post r u) (fun u t => va_P D vwCl (wM k a mm nn u la si it be pa su wo le pp qq ro lo lp lq rp rq se no ne) t.heap) A) args s 0 0 A) (F0 m 80 ls []) := by
  obtain ⟨hx, hb, hr, hts, hown, hlocks, hml⟩ := id C0
  intro n
  induction n with
  | zero =>
    intro we x4 x5 x6 H locs ls hf
    exact False.elim hf
  | succ n ih =>
    intro we x4 x5 x6 H locs ls hf hP hD hS hl
    unfold p_X5_weights_80 at hf
    refine lv_iload hx hb dX5_weights_80 (lv_at hl 3 rfl) ?_
    refine lv_aload_n hx hb dX5_weights_82 rfl (lv_at hl 0 rfl) ?_
    refine va_get (D := D) (ci := 5) (C := RX5) (T := TX5) (N := 22) hx hb hts in_X5_weights_X5 hown hG.1 hP 0 rfl rfl 0 (by decide) (hts _ lk_X5_weights_7) (fun _ h9 => h9) rfl dX5_weights_83 ?_
    refine lv_aload_n hx hb dX5_weights_86 rfl (lv_at hl 0 rfl) ?_
    refine va_get (D := D) (ci := 5) (C := RX5) (T := TX5) (N := 22) hx hb hts in_X5_weights_X5 hown hG.1 hP 0 rfl rfl 1 (by decide) (hts _ lk_X5_weights_13) (fun _ h9 => h9) rfl dX5_weights_87 ?_
    refine lv_imul hx hb dX5_weights_90 ?_
    refine lv_icmp_ge (tgt := 139) hx hb dX5_weights_91 (by decide) (fun c_8 => ?_) (fun c_8 => ?_)
    · have hf := hf.1 c_8
      refine lv_iconst (v := 0) hx hb dX5_weights_139 (by decide) ?_
      refine lv_istore (lv' := [(6, .int 0), (0, .ref (a 0)), (4, .int x4), (5, .int x5)]) hx hb dX5_weights_140 hl (by decide) rfl (fun ls hl => ?_)
      obtain ⟨n_14, hf⟩ := hf
      exact k_X5_weights_142 C0 hG n_14 we x4 x5 0 _ _ _ hf hP hD hS (lv_sub hl [1, 2, 3, 0] rfl)
    · have hf := hf.2 c_8
      refine lv_aload_n hx hb dX5_weights_94 rfl (lv_at hl 0 rfl) ?_
      refine va_get (D := D) (ci := 5) (C := RX5) (T := TX5) (N := 22) hx hb hts in_X5_weights_X5 hown hG.1 hP 0 rfl rfl 5 (by decide) (hts _ lk_X5_weights_26) (fun _ h9 => h9) rfl dX5_weights_95 ?_
      refine lv_iload hx hb dX5_weights_98 (lv_at hl 2 rfl) ?_
      refine lv_iload hx hb dX5_weights_100 (lv_at hl 3 rfl) ?_
      refine lv_iadd hx hb dX5_weights_102 ?_
      obtain ⟨h_15, hf⟩ := hf
      refine va_iald hx hb hG.1 hP 4 0 rfl rfl h_15 dX5_weights_103 ?_
      refine lv_i2l (v := (it (x5 + x6).toNatClampNeg).toInt64) hx hb dX5_weights_104 rfl ?_
      refine lv_lconst (v := 0) hx hb dX5_weights_105 (by decide) ?_
      refine lv_ldc2 (v := 20) hx hb hown (hts _ mb_X5_weights_cl86) dX5_weights_106 ?_
      have hp : xPerm (wM k a mm nn we la si it be pa su wo le pp qq ro lo lp lq rp rq se no ne) (([]) ++ (wM k a mm nn we la si it be pa su wo le pp qq ro lo lp lq rp rq se no ne)) := (List.Perm.refl _)
      refine xCallI (w := []) (r := wM k a mm nn we la si it be pa su wo le pp qq ro lo lp lq rp rq se no ne) (va_runS (As := [.long ((it (x5 + x6).toNatClampNeg).toInt64), .long 0, .long 20]) (rest := []) ⟨hx, hb, hml, hown, hts⟩ (c_X5_in ((it (x5 + x6).toNatClampNeg).toInt64) 0 20 hf) (va_cwS 3 hts gX5_weights_X5_in rfl rfl rfl (by decide +kernel) ⟨Nat.le_of_ble_eq_true rfl, Nat.le_of_ble_eq_true rfl⟩) (xPreS hG hP hD hp) rfl rfl hl.1 rfl (lv_room (Nat.le_of_ble_eq_true rfl)) dX5_weights_109 ⟨Nat.zero_le _, Nat.zero_le _⟩) hP hD hS hp (fun _ => rfl) (fun r_16 _ H locs hf hP hD hS => ?_)
      have hP : va_P D vwCl (wM k a mm nn we la si it be pa su wo le pp qq ro lo lp lq rp rq se no ne) H := hP
      have hD : va_D A (wM k a mm nn we la si it be pa su wo le pp qq ro lo lp lq rp rq se no ne) := hD
      refine lv_if_ne (tgt := 118) hx hb dX5_weights_112 (by decide) (fun c_17 => ?_) (fun c_17 => ?_)
      · have hf := hf.2 c_17
        refine lv_iload hx hb dX5_weights_118 (lv_at hl 1 rfl) ?_
        refine lv_aload_n hx hb dX5_weights_120 rfl (lv_at hl 0 rfl) ?_
        refine va_get (D := D) (ci := 5) (C := RX5) (T := TX5) (N := 22) hx hb hts in_X5_weights_X5 hown hG.1 hP 0 rfl rfl 5 (by decide) (hts _ lk_X5_weights_26) (fun _ h9 => h9) rfl dX5_weights_121 ?_
        refine lv_iload hx hb dX5_weights_124 (lv_at hl 2 rfl) ?_
        refine lv_iload hx hb dX5_weights_126 (lv_at hl 3 rfl) ?_
        refine lv_iadd hx hb dX5_weights_128 ?_
        obtain ⟨h_18, hf⟩ := hf
        refine va_iald hx hb hG.1 hP 4 0 rfl rfl h_18 dX5_weights_129 ?_
        refine lv_iadd hx hb dX5_weights_130 ?_
        refine lv_istore (lv' := [(4, .int (x4 + (it (x5 + x6).toNatClampNeg))), (0, .ref (a 0)), (5, .int x5), (6, .int x6)]) hx hb dX5_weights_131 hl (by decide) rfl (fun ls hl => ?_)
        refine lv_iinc (v := x6 + 1) (lv' := [(6, .int (x6 + 1)), (4, .int (x4 + (it (x5 + x6).toNatClampNeg))), (0, .ref (a 0)), (5, .int x5)]) hx hb dX5_weights_133 hl (k := 3) rfl rfl (by decide) rfl (fun ls hl => ?_)
        refine lv_goto (tgt := 80) hx hb dX5_weights_136 (by decide) ?_
        exact ih we (x4 + (it (x5 + x6).toNatClampNeg)) x5 (x6 + 1) _ _ _ hf hP hD hS (lv_sub hl [2, 1, 3, 0] rfl)
      · have hf := hf.1 c_17
        refine lv_bipush (v := (-2)) hx hb dX5_weights_115 (by decide) ?_
        exact W.iret (v := (-2)) hx hb hr (fun t ht hW => ⟨⟨((-2) : Int32), we, rfl, hf, xHp ht hP⟩, hS.F ht⟩) hS.2.2 dX5_weights_117 hlocks
set_option maxHeartbeats 4000000 in
set_option maxRecDepth 100000 in
theorem c_X5_weights {l : Launch} {D : va_G} {k : Nat → ClassId} (a : Nat → Nat) (mm : Int32) (nn : Int32) (we : Nat → Int32) (la : Nat → Int32) (si : Nat → Int32) (it : Nat → Int32) (be : Nat → Int32) (pa : Nat → Int32) (su : Nat → Int64) (wo : Nat → Int32) (le : Int32) (pp : Nat → Int32) (qq : Nat → Int32) (ro : Nat → Int32) (lo : Nat → Int32) (lp : Nat → Int32) (lq : Nat → Int32) (rp : Nat → Int32) (rq : Nat → Int32) (se : Nat → Int32) (no : Nat → Int64) (ne : Nat → Int64) (x1 : Int32) (x2 : Int32) (x3 : Int32) {post : Int32 → (Nat → Int32) → Prop} (hf : p_X5_weights mm nn we la si it x1 x2 x3 post) : ctI l yX5_weights wsX5_weights ({ frames := 2, cells := 0, slots := 0, locals := 46 }) D k [.ref (a 0), .int x1, .int x2, .int x3] (wM k a mm nn we la si it be pa su wo le pp qq ro lo lp lq rp rq se no ne) (fun u : (Nat → Int32) => wM k a mm nn u la si it be pa su wo le pp qq ro lo lp lq rp rq se no ne) (fun (r : Int32) (u : (Nat → Int32)) => post r u) := by
  refine Met.ofW (cc := cX5_weights) (maxL := 7) (ret := (some .int)) (by decide) rfl ?_
  intro p e s m args below meth c s₁ B hml hv
  obtain ⟨rfl, hP, hG, hD0⟩ := hv
  have C0 : xM p s m ([.ref (a 0), .int x1, .int x2, .int x3] : List Value).toArray meth c cX5_weights 7 RX5 (some .int) wsX5_weights := ⟨B.exec, B.bytes, B.returns, atoms_spec (ws := wsX5_weights) B.pre, findClass_of_methodNamed B.named, B.notSynchronized, hml⟩
  obtain ⟨hx, hb, hr, hts, hown, hlocks, hml⟩ := id C0
  have hD := xSelf hD0
  have hS : va_S (xIn (wM k a mm nn we la si it be pa su wo le pp qq ro lo lp lq rp rq se no ne)) s.heap s.heap [] := va_S.rf
  generalize xIn (wM k a mm nn we la si it be pa su wo le pp qq ro lo lp lq rp rq se no ne) = A at hD hS ⊢
  have hl := lv_entry ([.ref (a 0), .int x1, .int x2, .int x3]) (n := 7) (Nat.le_of_ble_eq_true rfl)
  rw [lg_entry_eq]
  generalize (lg_sl ([.ref (a 0), .int x1, .int x2, .int x3]) ++ List.replicate (7 - (lg_sl ([.ref (a 0), .int x1, .int x2, .int x3])).length) Slot.unset).toArray = ls at hl ⊢
  have hl : lv_has ls 7 [(0, .ref (a 0)), (1, .int x1), (2, .int x2), (3, .int x3)] := hl
  unfold p_X5_weights at hf
  refine lv_iload_n hx hb dX5_weights_0 rfl (lv_at hl 1 rfl) ?_
  refine lv_iload_n hx hb dX5_weights_1 rfl (lv_at hl 2 rfl) ?_
  have hp : xPerm (wM k a mm nn we la si it be pa su wo le pp qq ro lo lp lq rp rq se no ne) (([]) ++ (wM k a mm nn we la si it be pa su wo le pp qq ro lo lp lq rp rq se no ne)) := (List.Perm.refl _)
  refine xCallI (w := []) (r := wM k a mm nn we la si it be pa su wo le pp qq ro lo lp lq rp rq se no ne) (va_runS (As := [.int x1, .int x2]) (rest := []) ⟨hx, hb, hml, hown, hts⟩ (c_X5_isSheet x1 x2 hf) (va_cwS 2 hts gX5_weights_X5_isSheet rfl rfl rfl (by decide +kernel) ⟨Nat.le_of_ble_eq_true rfl, Nat.le_of_ble_eq_true rfl⟩) (xPreS hG hP hD hp) rfl rfl hl.1 rfl (lv_room (Nat.le_of_ble_eq_true rfl)) dX5_weights_2 ⟨Nat.zero_le _, Nat.zero_le _⟩) hP hD hS hp (fun _ => rfl) (fun r_1 _ H locs hf hP hD hS => ?_)
  have hP : va_P D vwCl (wM k a mm nn we la si it be pa su wo le pp qq ro lo lp lq rp rq se no ne) H := hP
  have hD : va_D A (wM k a mm nn we la si it be pa su wo le pp qq ro lo lp lq rp rq se no ne) := hD
  refine lv_if_ne (tgt := 10) hx hb dX5_weights_5 (by decide) (fun c_2 => ?_) (fun c_2 => ?_)
  · have hf := hf.2 c_2
    refine lv_aload_n hx hb dX5_weights_10 rfl (lv_at hl 0 rfl) ?_
    refine va_get (D := D) (ci := 5) (C := RX5) (T := TX5) (N := 22) hx hb hts in_X5_weights_X5 hown hG.1 hP 0 rfl rfl 3 (by decide) (hts _ lk_X5_weights_20) (fun _ h9 => h9) rfl dX5_weights_11 ?_
    refine lv_iload_n hx hb dX5_weights_14 rfl (lv_at hl 1 rfl) ?_
    obtain ⟨h_3, hf⟩ := hf
    refine va_iald hx hb hG.1 hP 2 0 rfl rfl h_3 dX5_weights_15 ?_
    refine lv_iload_n hx hb dX5_weights_16 rfl (lv_at hl 2 rfl) ?_
    refine lv_icmp_eq (tgt := 37) hx hb dX5_weights_17 (by decide) (fun c_4 => ?_) (fun c_4 => ?_)
    · have hf := hf.1 c_4
      refine lv_iload_n hx hb dX5_weights_37 rfl (lv_at hl 3 rfl) ?_
      refine lv_i2l (v := x3.toInt64) hx hb dX5_weights_38 rfl ?_
      refine lv_lconst (v := 0) hx hb dX5_weights_39 (by decide) ?_
      refine lv_aload_n hx hb dX5_weights_40 rfl (lv_at hl 0 rfl) ?_
      refine va_get (D := D) (ci := 5) (C := RX5) (T := TX5) (N := 22) hx hb hts in_X5_weights_X5 hown hG.1 hP 0 rfl rfl 4 (by decide) (hts _ lk_X5_weights_23) (fun _ h9 => h9) rfl dX5_weights_41 ?_
      refine lv_iload_n hx hb dX5_weights_44 rfl (lv_at hl 1 rfl) ?_
      obtain ⟨h_5, hf⟩ := hf
      refine va_iald hx hb hG.1 hP 3 0 rfl rfl h_5 dX5_weights_45 ?_
      refine lv_aload_n hx hb dX5_weights_46 rfl (lv_at hl 0 rfl) ?_
      refine va_get (D := D) (ci := 5) (C := RX5) (T := TX5) (N := 22) hx hb hts in_X5_weights_X5 hown hG.1 hP 0 rfl rfl 0 (by decide) (hts _ lk_X5_weights_7) (fun _ h9 => h9) rfl dX5_weights_47 ?_
      refine lv_aload_n hx hb dX5_weights_50 rfl (lv_at hl 0 rfl) ?_
      refine va_get (D := D) (ci := 5) (C := RX5) (T := TX5) (N := 22) hx hb hts in_X5_weights_X5 hown hG.1 hP 0 rfl rfl 1 (by decide) (hts _ lk_X5_weights_13) (fun _ h9 => h9) rfl dX5_weights_51 ?_
      refine lv_imul hx hb dX5_weights_54 ?_
      refine lv_isub hx hb dX5_weights_55 ?_
      refine lv_i2l (v := ((si x1.toNatClampNeg) - (mm * nn)).toInt64) hx hb dX5_weights_56 rfl ?_
      have hp : xPerm (wM k a mm nn we la si it be pa su wo le pp qq ro lo lp lq rp rq se no ne) (([]) ++ (wM k a mm nn we la si it be pa su wo le pp qq ro lo lp lq rp rq se no ne)) := (List.Perm.refl _)
      refine xCallI (w := []) (r := wM k a mm nn we la si it be pa su wo le pp qq ro lo lp lq rp rq se no ne) (va_runS (As := [.long (x3.toInt64), .long 0, .long (((si x1.toNatClampNeg) - (mm * nn)).toInt64)]) (rest := []) ⟨hx, hb, hml, hown, hts⟩ (c_X5_in (x3.toInt64) 0 (((si x1.toNatClampNeg) - (mm * nn)).toInt64) hf) (va_cwS 3 hts gX5_weights_X5_in rfl rfl rfl (by decide +kernel) ⟨Nat.le_of_ble_eq_true rfl, Nat.le_of_ble_eq_true rfl⟩) (xPreS hG hP hD hp) rfl rfl hl.1 rfl (lv_room (Nat.le_of_ble_eq_true rfl)) dX5_weights_57 ⟨Nat.zero_le _, Nat.zero_le _⟩) hP hD hS hp (fun _ => rfl) (fun r_6 _ H locs hf hP hD hS => ?_)
      have hP : va_P D vwCl (wM k a mm nn we la si it be pa su wo le pp qq ro lo lp lq rp rq se no ne) H := hP
      have hD : va_D A (wM k a mm nn we la si it be pa su wo le pp qq ro lo lp lq rp rq se no ne) := hD
      refine lv_if_ne (tgt := 66) hx hb dX5_weights_60 (by decide) (fun c_7 => ?_) (fun c_7 => ?_)
      · have hf := hf.2 c_7
        refine lv_iconst (v := 0) hx hb dX5_weights_66 (by decide) ?_
        refine lv_istore (lv' := [(4, .int 0), (0, .ref (a 0)), (1, .int x1), (2, .int x2), (3, .int x3)]) hx hb dX5_weights_67 hl (by decide) rfl (fun ls hl => ?_)
        refine lv_bipush (v := 36) hx hb dX5_weights_69 (by decide) ?_
        refine lv_iload_n hx hb dX5_weights_71 rfl (lv_at hl 2 rfl) ?_
        refine lv_imul hx hb dX5_weights_72 ?_
        refine lv_iload_n hx hb dX5_weights_73 rfl (lv_at hl 4 rfl) ?_
        refine lv_iadd hx hb dX5_weights_74 ?_
        refine lv_istore (lv' := [(5, .int ((36 * x1) + x3)), (4, .int 0), (0, .ref (a 0)), (1, .int x1), (2, .int x2), (3, .int x3)]) hx hb dX5_weights_75 hl (by decide) rfl (fun ls hl => ?_)
        refine lv_iconst (v := 0) hx hb dX5_weights_77 (by decide) ?_
        refine lv_istore (lv' := [(6, .int 0), (5, .int ((36 * x1) + x3)), (4, .int 0), (0, .ref (a 0)), (1, .int x1), (2, .int x2), (3, .int x3)]) hx hb dX5_weights_78 hl (by decide) rfl (fun ls hl => ?_)
        obtain ⟨n_19, hf⟩ := hf
        exact k_X5_weights_80 C0 hG n_19 we 0 ((36 * x1) + x3) 0 _ _ _ hf hP hD hS (lv_sub hl [3, 2, 1, 0] rfl)
      · have hf := hf.1 c_7
        refine lv_bipush (v := (-13)) hx hb dX5_weights_63 (by decide) ?_
        exact W.iret (v := (-13)) hx hb hr (fun t ht hW => ⟨⟨((-13) : Int32), we, rfl, hf, xHp ht hP⟩, hS.F ht⟩) hS.2.2 dX5_weights_65 hlocks
    · have hf := hf.2 c_4
      refine lv_aload_n hx hb dX5_weights_20 rfl (lv_at hl 0 rfl) ?_
      refine va_get (D := D) (ci := 5) (C := RX5) (T := TX5) (N := 22) hx hb hts in_X5_weights_X5 hown hG.1 hP 0 rfl rfl 3 (by decide) (hts _ lk_X5_weights_20) (fun _ h9 => h9) rfl dX5_weights_21 ?_
      refine lv_iload_n hx hb dX5_weights_24 rfl (lv_at hl 1 rfl) ?_
      obtain ⟨h_20, hf⟩ := hf
      refine va_iald hx hb hG.1 hP 2 0 rfl rfl h_20 dX5_weights_25 ?_
      refine lv_if_ge (tgt := 34) hx hb dX5_weights_26 (by decide) (fun c_21 => ?_) (fun c_21 => ?_)
      · have hf := hf.1 c_21
        refine lv_bipush (v := (-12)) hx hb dX5_weights_34 (by decide) ?_
        exact W.iret (v := (-12)) hx hb hr (fun t ht hW => ⟨⟨((-12) : Int32), we, rfl, hf, xHp ht hP⟩, hS.F ht⟩) hS.2.2 dX5_weights_36 hlocks
      · have hf := hf.2 c_21
        refine lv_bipush (v := (-11)) hx hb dX5_weights_29 (by decide) ?_
        refine lv_goto (tgt := 36) hx hb dX5_weights_31 (by decide) ?_
        exact W.iret (v := (-11)) hx hb hr (fun t ht hW => ⟨⟨((-11) : Int32), we, rfl, hf, xHp ht hP⟩, hS.F ht⟩) hS.2.2 dX5_weights_36 hlocks
  · have hf := hf.1 c_2
    refine lv_iconst (v := (-1)) hx hb dX5_weights_8 (by decide) ?_
    exact W.iret (v := (-1)) hx hb hr (fun t ht hW => ⟨⟨((-1) : Int32), we, rfl, hf, xHp ht hP⟩, hS.F ht⟩) hS.2.2 dX5_weights_9 hlocks

def p_X5_turn_10 (post : Int32 → Int32 → Int32 → (Nat → Int32) → Prop) (k2 : Int32 → Int32 → (Nat → Int32) → Int32 → Prop) : Nat → Int32 → Int32 → (Nat → Int32) → Int32 → Int32 → Prop
  | 0, _, _, _, _, _ => False
  | n + 1, mm, nn, we, x1, x2 => ((x1 ≤ x2 → k2 mm nn we (x1 + 1)) ∧ (¬ x1 ≤ x2 → (vp_in ((6 * x1) + x2) 36 ∧ (vp_in ((6 * x2) + x1) 36 ∧ (vp_in ((6 * x1) + x2) 36 ∧ (vp_in ((6 * x2) + x1) 36 ∧ p_X5_turn_10 post k2 n mm nn (upd (upd we (((6 * x1) + x2).toNatClampNeg) (we ((6 * x2) + x1).toNatClampNeg)) (((6 * x2) + x1).toNatClampNeg) (we ((6 * x1) + x2).toNatClampNeg)) x1 (x2 + 1)))))))
def p_X5_turn_2 (post : Int32 → Int32 → Int32 → (Nat → Int32) → Prop) : Nat → Int32 → Int32 → (Nat → Int32) → Int32 → Prop
  | 0, _, _, _, _ => False
  | n + 1, mm, nn, we, x1 => ((6 ≤ x1 → post 1 nn mm we) ∧ (¬ 6 ≤ x1 → (∃ n_7, p_X5_turn_10 post (fun mm nn we x1 => p_X5_turn_2 post n mm nn we x1) n_7 mm nn we x1 0)))
def p_X5_turn (mm : Int32) (nn : Int32) (we : Nat → Int32) (post : Int32 → Int32 → Int32 → (Nat → Int32) → Prop) : Prop := (∃ n_8, p_X5_turn_2 post n_8 mm nn we 0)
theorem in_X5_turn_X5 : ∀ w ∈ u_ws RX5 TX5 22, w ∈ wsX5_turn := by decide +kernel
theorem lk_X5_turn_13 : Cond.fieldLink RX5 13 "GrowingCornersModel" "n" "I" ∈ wsX5_turn := by decide +kernel
theorem lk_X5_turn_16 : Cond.fieldLink RX5 16 "GrowingCornersModel" "weights" "[I" ∈ wsX5_turn := by decide +kernel
theorem lk_X5_turn_7 : Cond.fieldLink RX5 7 "GrowingCornersModel" "m" "I" ∈ wsX5_turn := by decide +kernel
set_option maxHeartbeats 4000000 in
set_option maxRecDepth 100000 in
theorem k_X5_turn_10 {p : Program} {l : Launch} {e : Env} {s : State} {m : MethodId} {args : Array Value} {below : List Frame} {meth : Method} {c : Code} {A : Nat → Prop} {D : va_G} {k : Nat → ClassId} {a : Nat → Nat} {la : Nat → Int32} {si : Nat → Int32} {it : Nat → Int32} {be : Nat → Int32} {pa : Nat → Int32} {su : Nat → Int64} {wo : Nat → Int32} {le : Int32} {pp : Nat → Int32} {qq : Nat → Int32} {ro : Nat → Int32} {lo : Nat → Int32} {lp : Nat → Int32} {lq : Nat → Int32} {rp : Nat → Int32} {rq : Nat → Int32} {se : Nat → Int32} {no : Nat → Int64} {ne : Nat → Int64} (C0 : xM p s m args meth c cX5_turn 4 RX5 (some .int) wsX5_turn) (hG : xG D k s) {post : Int32 → Int32 → Int32 → (Nat → Int32) → Prop} {k2 : Int32 → Int32 → (Nat → Int32) → Int32 → Prop} (hk2 : ∀ (mm : Int32) (nn : Int32) (we : Nat → Int32) (x1 : Int32) (H : Heap) (locs : List Loc) (ls : Array Slot), k2 mm nn we x1 → va_P D vwCl (wM k a mm nn we la si it be pa su wo le pp qq ro lo lp lq rp rq se no ne) H → va_D A (wM k a mm nn we la si it be pa su wo le pp qq ro lo lp lq rp rq se no ne) → va_S A s.heap H locs → lv_has ls 4 [(0, .ref (a 0)), (1, .int x1)] → W p l e ({ frames := 0, cells := 0, slots := 0, locals := 0 }) s m args below meth c H locs 0 0 (MQ below (va_Qi (fun (r : Int32) (u : Int32 × Int32 × (Nat → Int32)) => post r u.1 u.2.1 u.2.2) (fun u t => va_P D vwCl (wM k a (u.1) (u.2.1) (u.2.2) la si it be pa su wo le pp qq ro lo lp lq rp rq se no ne) t.heap) A) args s 0 0 A) (F0 m 2 ls [])) : ∀ (n : Nat) (mm : Int32) (nn : Int32) (we : Nat → Int32) (x1 : Int32) (x2 : Int32) (H : Heap) (locs : List Loc) (ls : Array Slot), p_X5_turn_10 post k2 n mm nn we x1 x2 → va_P D vwCl (wM k a mm nn we la si it be pa su wo le pp qq ro lo lp lq rp rq se no ne) H → va_D A (wM k a mm nn we la si it be pa su wo le pp qq ro lo lp lq rp rq se no ne) → va_S A s.heap H locs → lv_has ls 4 [(0, .ref (a 0)), (1, .int x1), (2, .int x2)] → W p l e ({ frames := 0, cells := 0, slots := 0, locals := 0 }) s m args below meth c H locs 0 0 (MQ below (va_Qi (fun (r : Int32) (u : Int32 × Int32 × (Nat → Int32)) => post r u.1 u.2.1 u.2.2) (fun u t => va_P D vwCl (wM k a (u.1) (u.2.1) (u.2.2) la si it be pa su wo le pp qq ro lo lp lq rp rq se no ne) t.heap) A) args s 0 0 A) (F0 m 10 ls []) := by
  obtain ⟨hx, hb, hr, hts, hown, hlocks, hml⟩ := id C0
  intro n
  induction n with
  | zero =>
    intro mm nn we x1 x2 H locs ls hf
    exact False.elim hf
  | succ n ih =>
    intro mm nn we x1 x2 H locs ls hf hP hD hS hl
    unfold p_X5_turn_10 at hf
    refine lv_iload_n hx hb dX5_turn_10 rfl (lv_at hl 2 rfl) ?_
    refine lv_iload_n hx hb dX5_turn_11 rfl (lv_at hl 1 rfl) ?_
    refine lv_icmp_ge (tgt := 67) hx hb dX5_turn_12 (by decide) (fun c_2 => ?_) (fun c_2 => ?_)
    · have hf := hf.1 c_2
      refine lv_iinc (v := x1 + 1) (lv' := [(1, .int (x1 + 1)), (0, .ref (a 0)), (2, .int x2)]) hx hb dX5_turn_67 hl (k := 1) rfl rfl (by decide) rfl (fun ls hl => ?_)
      refine lv_goto (tgt := 2) hx hb dX5_turn_70 (by decide) ?_
      exact hk2 mm nn we (x1 + 1) _ _ _ hf hP hD hS (lv_sub hl [1, 0] rfl)
    · have hf := hf.2 c_2
      refine lv_aload_n hx hb dX5_turn_15 rfl (lv_at hl 0 rfl) ?_
      refine va_get (D := D) (ci := 5) (C := RX5) (T := TX5) (N := 22) hx hb hts in_X5_turn_X5 hown hG.1 hP 0 rfl rfl 2 (by decide) (hts _ lk_X5_turn_16) (fun _ h9 => h9) rfl dX5_turn_16 ?_
      refine lv_bipush (v := 6) hx hb dX5_turn_19 (by decide) ?_
      refine lv_iload_n hx hb dX5_turn_21 rfl (lv_at hl 1 rfl) ?_
      refine lv_imul hx hb dX5_turn_22 ?_
      refine lv_iload_n hx hb dX5_turn_23 rfl (lv_at hl 2 rfl) ?_
      refine lv_iadd hx hb dX5_turn_24 ?_
      obtain ⟨h_3, hf⟩ := hf
      refine va_iald hx hb hG.1 hP 1 0 rfl rfl h_3 dX5_turn_25 ?_
      refine lv_istore_n (lv' := [(3, .int (we ((6 * x1) + x2).toNatClampNeg)), (0, .ref (a 0)), (1, .int x1), (2, .int x2)]) hx hb dX5_turn_26 rfl hl (by decide) rfl (fun ls hl => ?_)
      refine lv_aload_n hx hb dX5_turn_27 rfl (lv_at hl 1 rfl) ?_
      refine va_get (D := D) (ci := 5) (C := RX5) (T := TX5) (N := 22) hx hb hts in_X5_turn_X5 hown hG.1 hP 0 rfl rfl 2 (by decide) (hts _ lk_X5_turn_16) (fun _ h9 => h9) rfl dX5_turn_28 ?_
      refine lv_bipush (v := 6) hx hb dX5_turn_31 (by decide) ?_
      refine lv_iload_n hx hb dX5_turn_33 rfl (lv_at hl 2 rfl) ?_
      refine lv_imul hx hb dX5_turn_34 ?_
      refine lv_iload_n hx hb dX5_turn_35 rfl (lv_at hl 3 rfl) ?_
      refine lv_iadd hx hb dX5_turn_36 ?_
      refine lv_aload_n hx hb dX5_turn_37 rfl (lv_at hl 1 rfl) ?_
      refine va_get (D := D) (ci := 5) (C := RX5) (T := TX5) (N := 22) hx hb hts in_X5_turn_X5 hown hG.1 hP 0 rfl rfl 2 (by decide) (hts _ lk_X5_turn_16) (fun _ h9 => h9) rfl dX5_turn_38 ?_
      refine lv_bipush (v := 6) hx hb dX5_turn_41 (by decide) ?_
      refine lv_iload_n hx hb dX5_turn_43 rfl (lv_at hl 3 rfl) ?_
      refine lv_imul hx hb dX5_turn_44 ?_
      refine lv_iload_n hx hb dX5_turn_45 rfl (lv_at hl 2 rfl) ?_
      refine lv_iadd hx hb dX5_turn_46 ?_
      obtain ⟨h_4, hf⟩ := hf
      refine va_iald hx hb hG.1 hP 1 0 rfl rfl h_4 dX5_turn_47 ?_
      obtain ⟨h_5, hf⟩ := hf
      refine va_iast hx hb hG.1 hP hD hS 1 0 rfl rfl h_5 dX5_turn_48 (fun H locs hP hD hS => ?_)
      have hP : va_P D vwCl (wM k a mm nn (upd we (((6 * x1) + x2).toNatClampNeg) (we ((6 * x2) + x1).toNatClampNeg)) la si it be pa su wo le pp qq ro lo lp lq rp rq se no ne) H := hP
      have hD : va_D A (wM k a mm nn (upd we (((6 * x1) + x2).toNatClampNeg) (we ((6 * x2) + x1).toNatClampNeg)) la si it be pa su wo le pp qq ro lo lp lq rp rq se no ne) := hD
      refine lv_aload_n hx hb dX5_turn_49 rfl (lv_at hl 1 rfl) ?_
      refine va_get (D := D) (ci := 5) (C := RX5) (T := TX5) (N := 22) hx hb hts in_X5_turn_X5 hown hG.1 hP 0 rfl rfl 2 (by decide) (hts _ lk_X5_turn_16) (fun _ h9 => h9) rfl dX5_turn_50 ?_
      refine lv_bipush (v := 6) hx hb dX5_turn_53 (by decide) ?_
      refine lv_iload_n hx hb dX5_turn_55 rfl (lv_at hl 3 rfl) ?_
      refine lv_imul hx hb dX5_turn_56 ?_
      refine lv_iload_n hx hb dX5_turn_57 rfl (lv_at hl 2 rfl) ?_
      refine lv_iadd hx hb dX5_turn_58 ?_
      refine lv_iload_n hx hb dX5_turn_59 rfl (lv_at hl 0 rfl) ?_
      obtain ⟨h_6, hf⟩ := hf
      refine va_iast hx hb hG.1 hP hD hS 1 0 rfl rfl h_6 dX5_turn_60 (fun H locs hP hD hS => ?_)
      have hP : va_P D vwCl (wM k a mm nn (upd (upd we (((6 * x1) + x2).toNatClampNeg) (we ((6 * x2) + x1).toNatClampNeg)) (((6 * x2) + x1).toNatClampNeg) (we ((6 * x1) + x2).toNatClampNeg)) la si it be pa su wo le pp qq ro lo lp lq rp rq se no ne) H := hP
      have hD : va_D A (wM k a mm nn (upd (upd we (((6 * x1) + x2).toNatClampNeg) (we ((6 * x2) + x1).toNatClampNeg)) (((6 * x2) + x1).toNatClampNeg) (we ((6 * x1) + x2).toNatClampNeg)) la si it be pa su wo le pp qq ro lo lp lq rp rq se no ne) := hD
      refine lv_iinc (v := x2 + 1) (lv' := [(2, .int (x2 + 1)), (3, .int (we ((6 * x1) + x2).toNatClampNeg)), (0, .ref (a 0)), (1, .int x1)]) hx hb dX5_turn_61 hl (k := 3) rfl rfl (by decide) rfl (fun ls hl => ?_)
      refine lv_goto (tgt := 10) hx hb dX5_turn_64 (by decide) ?_
      exact ih mm nn (upd (upd we (((6 * x1) + x2).toNatClampNeg) (we ((6 * x2) + x1).toNatClampNeg)) (((6 * x2) + x1).toNatClampNeg) (we ((6 * x1) + x2).toNatClampNeg)) x1 (x2 + 1) _ _ _ hf hP hD hS (lv_sub hl [2, 3, 0] rfl)
set_option maxHeartbeats 4000000 in
set_option maxRecDepth 100000 in
theorem k_X5_turn_2 {p : Program} {l : Launch} {e : Env} {s : State} {m : MethodId} {args : Array Value} {below : List Frame} {meth : Method} {c : Code} {A : Nat → Prop} {D : va_G} {k : Nat → ClassId} {a : Nat → Nat} {la : Nat → Int32} {si : Nat → Int32} {it : Nat → Int32} {be : Nat → Int32} {pa : Nat → Int32} {su : Nat → Int64} {wo : Nat → Int32} {le : Int32} {pp : Nat → Int32} {qq : Nat → Int32} {ro : Nat → Int32} {lo : Nat → Int32} {lp : Nat → Int32} {lq : Nat → Int32} {rp : Nat → Int32} {rq : Nat → Int32} {se : Nat → Int32} {no : Nat → Int64} {ne : Nat → Int64} (C0 : xM p s m args meth c cX5_turn 4 RX5 (some .int) wsX5_turn) (hG : xG D k s) {post : Int32 → Int32 → Int32 → (Nat → Int32) → Prop} : ∀ (n : Nat) (mm : Int32) (nn : Int32) (we : Nat → Int32) (x1 : Int32) (H : Heap) (locs : List Loc) (ls : Array Slot), p_X5_turn_2 post n mm nn we x1 → va_P D vwCl (wM k a mm nn we la si it be pa su wo le pp qq ro lo lp lq rp rq se no ne) H → va_D A (wM k a mm nn we la si it be pa su wo le pp qq ro lo lp lq rp rq se no ne) → va_S A s.heap H locs → lv_has ls 4 [(0, .ref (a 0)), (1, .int x1)] → W p l e ({ frames := 0, cells := 0, slots := 0, locals := 0 }) s m args below meth c H locs 0 0 (MQ below (va_Qi (fun (r : Int32) (u : Int32 × Int32 × (Nat → Int32)) => post r u.1 u.2.1 u.2.2) (fun u t => va_P D vwCl (wM k a (u.1) (u.2.1) (u.2.2) la si it be pa su wo le pp qq ro lo lp lq rp rq se no ne) t.heap) A) args s 0 0 A) (F0 m 2 ls []) := by
  obtain ⟨hx, hb, hr, hts, hown, hlocks, hml⟩ := id C0
  intro n
  induction n with
  | zero =>
    intro mm nn we x1 H locs ls hf
    exact False.elim hf
  | succ n ih =>
    intro mm nn we x1 H locs ls hf hP hD hS hl
    unfold p_X5_turn_2 at hf
    refine lv_iload_n hx hb dX5_turn_2 rfl (lv_at hl 1 rfl) ?_
    refine lv_bipush (v := 6) hx hb dX5_turn_3 (by decide) ?_
    refine lv_icmp_ge (tgt := 73) hx hb dX5_turn_5 (by decide) (fun c_1 => ?_) (fun c_1 => ?_)
    · have hf := hf.1 c_1
      refine lv_aload_n hx hb dX5_turn_73 rfl (lv_at hl 0 rfl) ?_
      refine va_get (D := D) (ci := 5) (C := RX5) (T := TX5) (N := 22) hx hb hts in_X5_turn_X5 hown hG.1 hP 0 rfl rfl 0 (by decide) (hts _ lk_X5_turn_7) (fun _ h9 => h9) rfl dX5_turn_74 ?_
      refine lv_istore_n (lv' := [(1, .int mm), (0, .ref (a 0))]) hx hb dX5_turn_77 rfl hl (by decide) rfl (fun ls hl => ?_)
      refine lv_aload_n hx hb dX5_turn_78 rfl (lv_at hl 1 rfl) ?_
      refine lv_aload_n hx hb dX5_turn_79 rfl (lv_at hl 1 rfl) ?_
      refine va_get (D := D) (ci := 5) (C := RX5) (T := TX5) (N := 22) hx hb hts in_X5_turn_X5 hown hG.1 hP 0 rfl rfl 1 (by decide) (hts _ lk_X5_turn_13) (fun _ h9 => h9) rfl dX5_turn_80 ?_
      refine va_put (D := D) (ci := 5) (v := .int nn) (ty := .int) (C := RX5) (T := TX5) (N := 22) hx hb hts in_X5_turn_X5 tyX5 tyX5_ok nmX5 hown hG.1 hP hD hS 0 rfl rfl 0 (by decide) (hts _ lk_X5_turn_7) (fun _ h9 => h9) rfl (by decide +kernel) rfl rfl (Nat.le_of_ble_eq_true rfl) dX5_turn_83 (fun H locs hP hD hS => ?_)
      have hP : va_P D vwCl (wM k a nn nn we la si it be pa su wo le pp qq ro lo lp lq rp rq se no ne) H := hP
      have hD : va_D A (wM k a nn nn we la si it be pa su wo le pp qq ro lo lp lq rp rq se no ne) := hD
      refine lv_aload_n hx hb dX5_turn_86 rfl (lv_at hl 1 rfl) ?_
      refine lv_iload_n hx hb dX5_turn_87 rfl (lv_at hl 0 rfl) ?_
      refine va_put (D := D) (ci := 5) (v := .int mm) (ty := .int) (C := RX5) (T := TX5) (N := 22) hx hb hts in_X5_turn_X5 tyX5 tyX5_ok nmX5 hown hG.1 hP hD hS 0 rfl rfl 1 (by decide) (hts _ lk_X5_turn_13) (fun _ h9 => h9) rfl (by decide +kernel) rfl rfl (Nat.le_of_ble_eq_true rfl) dX5_turn_88 (fun H locs hP hD hS => ?_)
      have hP : va_P D vwCl (wM k a nn mm we la si it be pa su wo le pp qq ro lo lp lq rp rq se no ne) H := hP
      have hD : va_D A (wM k a nn mm we la si it be pa su wo le pp qq ro lo lp lq rp rq se no ne) := hD
      refine lv_iconst (v := 1) hx hb dX5_turn_91 (by decide) ?_
      exact W.iret (v := 1) hx hb hr (fun t ht hW => ⟨⟨(1 : Int32), (nn, mm, we), rfl, hf, xHp ht hP⟩, hS.F ht⟩) hS.2.2 dX5_turn_92 hlocks
    · have hf := hf.2 c_1
      refine lv_iconst (v := 0) hx hb dX5_turn_8 (by decide) ?_
      refine lv_istore_n (lv' := [(2, .int 0), (0, .ref (a 0)), (1, .int x1)]) hx hb dX5_turn_9 rfl hl (by decide) rfl (fun ls hl => ?_)
      obtain ⟨n_7, hf⟩ := hf
      exact k_X5_turn_10 C0 hG ih n_7 mm nn we x1 0 _ _ _ hf hP hD hS (lv_sub hl [1, 2, 0] rfl)
set_option maxHeartbeats 4000000 in
set_option maxRecDepth 100000 in
theorem c_X5_turn {l : Launch} {D : va_G} {k : Nat → ClassId} (a : Nat → Nat) (mm : Int32) (nn : Int32) (we : Nat → Int32) (la : Nat → Int32) (si : Nat → Int32) (it : Nat → Int32) (be : Nat → Int32) (pa : Nat → Int32) (su : Nat → Int64) (wo : Nat → Int32) (le : Int32) (pp : Nat → Int32) (qq : Nat → Int32) (ro : Nat → Int32) (lo : Nat → Int32) (lp : Nat → Int32) (lq : Nat → Int32) (rp : Nat → Int32) (rq : Nat → Int32) (se : Nat → Int32) (no : Nat → Int64) (ne : Nat → Int64) {post : Int32 → Int32 → Int32 → (Nat → Int32) → Prop} (hf : p_X5_turn mm nn we post) : ctI l yX5_turn wsX5_turn ({ frames := 0, cells := 0, slots := 0, locals := 0 }) D k [.ref (a 0)] (wM k a mm nn we la si it be pa su wo le pp qq ro lo lp lq rp rq se no ne) (fun u : Int32 × Int32 × (Nat → Int32) => wM k a (u.1) (u.2.1) (u.2.2) la si it be pa su wo le pp qq ro lo lp lq rp rq se no ne) (fun (r : Int32) (u : Int32 × Int32 × (Nat → Int32)) => post r u.1 u.2.1 u.2.2) := by
  refine Met.ofW (cc := cX5_turn) (maxL := 4) (ret := (some .int)) (by decide) rfl ?_
  intro p e s m args below meth c s₁ B hml hv
  obtain ⟨rfl, hP, hG, hD0⟩ := hv
  have C0 : xM p s m ([.ref (a 0)] : List Value).toArray meth c cX5_turn 4 RX5 (some .int) wsX5_turn := ⟨B.exec, B.bytes, B.returns, atoms_spec (ws := wsX5_turn) B.pre, findClass_of_methodNamed B.named, B.notSynchronized, hml⟩
  obtain ⟨hx, hb, hr, hts, hown, hlocks, hml⟩ := id C0
  have hD := xSelf hD0
  have hS : va_S (xIn (wM k a mm nn we la si it be pa su wo le pp qq ro lo lp lq rp rq se no ne)) s.heap s.heap [] := va_S.rf
  generalize xIn (wM k a mm nn we la si it be pa su wo le pp qq ro lo lp lq rp rq se no ne) = A at hD hS ⊢
  have hl := lv_entry ([.ref (a 0)]) (n := 4) (Nat.le_of_ble_eq_true rfl)
  rw [lg_entry_eq]
  generalize (lg_sl ([.ref (a 0)]) ++ List.replicate (4 - (lg_sl ([.ref (a 0)])).length) Slot.unset).toArray = ls at hl ⊢
  have hl : lv_has ls 4 [(0, .ref (a 0))] := hl
  unfold p_X5_turn at hf
  refine lv_iconst (v := 0) hx hb dX5_turn_0 (by decide) ?_
  refine lv_istore_n (lv' := [(1, .int 0), (0, .ref (a 0))]) hx hb dX5_turn_1 rfl hl (by decide) rfl (fun ls hl => ?_)
  obtain ⟨n_8, hf⟩ := hf
  exact k_X5_turn_2 C0 hG n_8 mm nn we 0 _ _ _ hf hP hD hS (lv_sub hl [1, 0] rfl)

def p_X5_findBest_71 (mm : Int32) (nn : Int32) (we : Nat → Int32) (x1 : Int32) (x2 : Int32) (post : (Nat → Int32) → Prop) (k2 : (Nat → Int32) → Int32 → Prop) (k13 : (Nat → Int32) → Int32 → Int32 → Prop) (be : Nat → Int32) (x3 : Int32) (x4 : Int32) (x5 : Int32) (s0 : Int32) : Prop := p_X5_greater x5 s0 (fun r_5 => (vp_in ((6 * x3) + x4) 36 ∧ (vp_in ((6 * x3) + x4) 36 ∧ k13 (upd be (((6 * x3) + x4).toNatClampNeg) (r_5 + (we ((6 * x3) + x4).toNatClampNeg))) x3 (x4 + 1))))
def p_X5_findBest_45 (mm : Int32) (nn : Int32) (we : Nat → Int32) (x1 : Int32) (x2 : Int32) (post : (Nat → Int32) → Prop) (k2 : (Nat → Int32) → Int32 → Prop) (k13 : (Nat → Int32) → Int32 → Int32 → Prop) (be : Nat → Int32) (x3 : Int32) (x4 : Int32) (s0 : Int32) : Prop := ((x4 ≤ x2 → p_X5_findBest_71 mm nn we x1 x2 post k2 k13 be x3 x4 s0 0) ∧ (¬ x4 ≤ x2 → (vp_in (((6 * x3) + x4) - 1) 36 ∧ p_X5_findBest_71 mm nn we x1 x2 post k2 k13 be x3 x4 s0 (be (((6 * x3) + x4) - 1).toNatClampNeg))))
def p_X5_findBest_13 (mm : Int32) (nn : Int32) (we : Nat → Int32) (x1 : Int32) (x2 : Int32) (post : (Nat → Int32) → Prop) (k2 : (Nat → Int32) → Int32 → Prop) : Nat → (Nat → Int32) → Int32 → Int32 → Prop
  | 0, _, _, _ => False
  | n + 1, be, x3, x4 => ((nn ≤ x4 → k2 be (x3 + 1)) ∧ (¬ nn ≤ x4 → ((x3 ≤ x1 → p_X5_findBest_45 mm nn we x1 x2 post k2 (fun be x3 x4 => p_X5_findBest_13 mm nn we x1 x2 post k2 n be x3 x4) be x3 x4 0) ∧ (¬ x3 ≤ x1 → (vp_in ((6 * (x3 - 1)) + x4) 36 ∧ p_X5_findBest_45 mm nn we x1 x2 post k2 (fun be x3 x4 => p_X5_findBest_13 mm nn we x1 x2 post k2 n be x3 x4) be x3 x4 (be ((6 * (x3 - 1)) + x4).toNatClampNeg))))))
def p_X5_findBest_2 (mm : Int32) (nn : Int32) (we : Nat → Int32) (x1 : Int32) (x2 : Int32) (post : (Nat → Int32) → Prop) : Nat → (Nat → Int32) → Int32 → Prop
  | 0, _, _ => False
  | n + 1, be, x3 => ((mm ≤ x3 → post be) ∧ (¬ mm ≤ x3 → (∃ n_10, p_X5_findBest_13 mm nn we x1 x2 post (fun be x3 => p_X5_findBest_2 mm nn we x1 x2 post n be x3) n_10 be x3 x2)))
def p_X5_findBest (mm : Int32) (nn : Int32) (we : Nat → Int32) (be : Nat → Int32) (x1 : Int32) (x2 : Int32) (post : (Nat → Int32) → Prop) : Prop := (∃ n_11, p_X5_findBest_2 mm nn we x1 x2 post n_11 be x1)
theorem in_X5_findBest_X5 : ∀ w ∈ u_ws RX5 TX5 22, w ∈ wsX5_findBest := by decide +kernel
theorem lk_X5_findBest_13 : Cond.fieldLink RX5 13 "GrowingCornersModel" "n" "I" ∈ wsX5_findBest := by decide +kernel
theorem lk_X5_findBest_16 : Cond.fieldLink RX5 16 "GrowingCornersModel" "weights" "[I" ∈ wsX5_findBest := by decide +kernel
theorem lk_X5_findBest_29 : Cond.fieldLink RX5 29 "GrowingCornersModel" "best" "[I" ∈ wsX5_findBest := by decide +kernel
theorem lk_X5_findBest_7 : Cond.fieldLink RX5 7 "GrowingCornersModel" "m" "I" ∈ wsX5_findBest := by decide +kernel
set_option maxHeartbeats 4000000 in
set_option maxRecDepth 100000 in
theorem k_X5_findBest_71 {p : Program} {l : Launch} {e : Env} {s : State} {m : MethodId} {args : Array Value} {below : List Frame} {meth : Method} {c : Code} {A : Nat → Prop} {D : va_G} {k : Nat → ClassId} {a : Nat → Nat} {mm : Int32} {nn : Int32} {we : Nat → Int32} {la : Nat → Int32} {si : Nat → Int32} {it : Nat → Int32} {pa : Nat → Int32} {su : Nat → Int64} {wo : Nat → Int32} {le : Int32} {pp : Nat → Int32} {qq : Nat → Int32} {ro : Nat → Int32} {lo : Nat → Int32} {lp : Nat → Int32} {lq : Nat → Int32} {rp : Nat → Int32} {rq : Nat → Int32} {se : Nat → Int32} {no : Nat → Int64} {ne : Nat → Int64} {x1 : Int32} {x2 : Int32} (C0 : xM p s m args meth c cX5_findBest 7 RX5 none wsX5_findBest) (hG : xG D k s) {post : (Nat → Int32) → Prop} {k2 : (Nat → Int32) → Int32 → Prop} (hk2 : ∀ (be : Nat → Int32) (x3 : Int32) (H : Heap) (locs : List Loc) (ls : Array Slot), k2 be x3 → va_P D vwCl (wM k a mm nn we la si it be pa su wo le pp qq ro lo lp lq rp rq se no ne) H → va_D A (wM k a mm nn we la si it be pa su wo le pp qq ro lo lp lq rp rq se no ne) → va_S A s.heap H locs → lv_has ls 7 [(0, .ref (a 0)), (1, .int x1), (2, .int x2), (3, .int x3)] → W p l e ({ frames := 1, cells := 0, slots := 0, locals := 21 }) s m args below meth c H locs 0 0 (MQ below (va_Qv (fun (u : (Nat → Int32)) => post u) (fun u t => va_P D vwCl (wM k a mm nn we la si it u pa su wo le pp qq ro lo lp lq rp rq se no ne) t.heap) A) args s 0 0 A) (F0 m 2 ls [])) {k13 : (Nat → Int32) → Int32 → Int32 → Prop} (hk13 : ∀ (be : Nat → Int32) (x3 : Int32) (x4 : Int32) (H : Heap) (locs : List Loc) (ls : Array Slot), k13 be x3 x4 → va_P D vwCl (wM k a mm nn we la si it be pa su wo le pp qq ro lo lp lq rp rq se no ne) H → va_D A (wM k a mm nn we la si it be pa su wo le pp qq ro lo lp lq rp rq se no ne) → va_S A s.heap H locs → lv_has ls 7 [(0, .ref (a 0)), (1, .int x1), (2, .int x2), (3, .int x3), (4, .int x4)] → W p l e ({ frames := 1, cells := 0, slots := 0, locals := 21 }) s m args below meth c H locs 0 0 (MQ below (va_Qv (fun (u : (Nat → Int32)) => post u) (fun u t => va_P D vwCl (wM k a mm nn we la si it u pa su wo le pp qq ro lo lp lq rp rq se no ne) t.heap) A) args s 0 0 A) (F0 m 13 ls [])) : ∀ (be : Nat → Int32) (x3 : Int32) (x4 : Int32) (x5 : Int32) (s0 : Int32) (H : Heap) (locs : List Loc) (ls : Array Slot), p_X5_findBest_71 mm nn we x1 x2 post k2 k13 be x3 x4 x5 s0 → va_P D vwCl (wM k a mm nn we la si it be pa su wo le pp qq ro lo lp lq rp rq se no ne) H → va_D A (wM k a mm nn we la si it be pa su wo le pp qq ro lo lp lq rp rq se no ne) → va_S A s.heap H locs → lv_has ls 7 [(0, .ref (a 0)), (1, .int x1), (2, .int x2), (3, .int x3), (4, .int x4), (5, .int x5)] → W p l e ({ frames := 1, cells := 0, slots := 0, locals := 21 }) s m args below meth c H locs 0 0 (MQ below (va_Qv (fun (u : (Nat → Int32)) => post u) (fun u t => va_P D vwCl (wM k a mm nn we la si it u pa su wo le pp qq ro lo lp lq rp rq se no ne) t.heap) A) args s 0 0 A) (F0 m 71 ls [.int s0]) := by
  obtain ⟨hx, hb, hr, hts, hown, hlocks, hml⟩ := id C0
  intro be x3 x4 x5 s0 H locs ls hf hP hD hS hl
  unfold p_X5_findBest_71 at hf
  refine lv_istore (lv' := [(6, .int s0), (0, .ref (a 0)), (1, .int x1), (2, .int x2), (3, .int x3), (4, .int x4), (5, .int x5)]) hx hb dX5_findBest_71 hl (by decide) rfl (fun ls hl => ?_)
  refine lv_aload_n hx hb dX5_findBest_73 rfl (lv_at hl 1 rfl) ?_
  refine va_get (D := D) (ci := 5) (C := RX5) (T := TX5) (N := 22) hx hb hts in_X5_findBest_X5 hown hG.1 hP 0 rfl rfl 6 (by decide) (hts _ lk_X5_findBest_29) (fun _ h9 => h9) rfl dX5_findBest_74 ?_
  refine lv_bipush (v := 6) hx hb dX5_findBest_77 (by decide) ?_
  refine lv_iload_n hx hb dX5_findBest_79 rfl (lv_at hl 4 rfl) ?_
  refine lv_imul hx hb dX5_findBest_80 ?_
  refine lv_iload hx hb dX5_findBest_81 (lv_at hl 5 rfl) ?_
  refine lv_iadd hx hb dX5_findBest_83 ?_
  refine lv_iload hx hb dX5_findBest_84 (lv_at hl 6 rfl) ?_
  refine lv_iload hx hb dX5_findBest_86 (lv_at hl 0 rfl) ?_
  have hp : xPerm (wM k a mm nn we la si it be pa su wo le pp qq ro lo lp lq rp rq se no ne) (([]) ++ (wM k a mm nn we la si it be pa su wo le pp qq ro lo lp lq rp rq se no ne)) := (List.Perm.refl _)
  refine xCallI (w := []) (r := wM k a mm nn we la si it be pa su wo le pp qq ro lo lp lq rp rq se no ne) (va_runS (As := [.int x5, .int s0]) (rest := [.int ((6 * x3) + x4), .ref (a 5)]) ⟨hx, hb, hml, hown, hts⟩ (c_X5_greater x5 s0 hf) (va_cwS 2 hts gX5_findBest_X5_greater rfl rfl rfl (by decide +kernel) ⟨Nat.le_of_ble_eq_true rfl, Nat.le_of_ble_eq_true rfl⟩) (xPreS hG hP hD hp) rfl rfl hl.1 rfl (lv_room (Nat.le_of_ble_eq_true rfl)) dX5_findBest_88 ⟨Nat.zero_le _, Nat.zero_le _⟩) hP hD hS hp (fun _ => rfl) (fun r_5 _ H locs hf hP hD hS => ?_)
  have hP : va_P D vwCl (wM k a mm nn we la si it be pa su wo le pp qq ro lo lp lq rp rq se no ne) H := hP
  have hD : va_D A (wM k a mm nn we la si it be pa su wo le pp qq ro lo lp lq rp rq se no ne) := hD
  refine lv_aload_n hx hb dX5_findBest_91 rfl (lv_at hl 1 rfl) ?_
  refine va_get (D := D) (ci := 5) (C := RX5) (T := TX5) (N := 22) hx hb hts in_X5_findBest_X5 hown hG.1 hP 0 rfl rfl 2 (by decide) (hts _ lk_X5_findBest_16) (fun _ h9 => h9) rfl dX5_findBest_92 ?_
  refine lv_bipush (v := 6) hx hb dX5_findBest_95 (by decide) ?_
  refine lv_iload_n hx hb dX5_findBest_97 rfl (lv_at hl 4 rfl) ?_
  refine lv_imul hx hb dX5_findBest_98 ?_
  refine lv_iload hx hb dX5_findBest_99 (lv_at hl 5 rfl) ?_
  refine lv_iadd hx hb dX5_findBest_101 ?_
  obtain ⟨h_6, hf⟩ := hf
  refine va_iald hx hb hG.1 hP 1 0 rfl rfl h_6 dX5_findBest_102 ?_
  refine lv_iadd hx hb dX5_findBest_103 ?_
  obtain ⟨h_7, hf⟩ := hf
  refine va_iast hx hb hG.1 hP hD hS 5 0 rfl rfl h_7 dX5_findBest_104 (fun H locs hP hD hS => ?_)
  have hP : va_P D vwCl (wM k a mm nn we la si it (upd be (((6 * x3) + x4).toNatClampNeg) (r_5 + (we ((6 * x3) + x4).toNatClampNeg))) pa su wo le pp qq ro lo lp lq rp rq se no ne) H := hP
  have hD : va_D A (wM k a mm nn we la si it (upd be (((6 * x3) + x4).toNatClampNeg) (r_5 + (we ((6 * x3) + x4).toNatClampNeg))) pa su wo le pp qq ro lo lp lq rp rq se no ne) := hD
  refine lv_iinc (v := x4 + 1) (lv' := [(4, .int (x4 + 1)), (6, .int s0), (0, .ref (a 0)), (1, .int x1), (2, .int x2), (3, .int x3), (5, .int x5)]) hx hb dX5_findBest_105 hl (k := 5) rfl rfl (by decide) rfl (fun ls hl => ?_)
  refine lv_goto (tgt := 13) hx hb dX5_findBest_108 (by decide) ?_
  exact hk13 (upd be (((6 * x3) + x4).toNatClampNeg) (r_5 + (we ((6 * x3) + x4).toNatClampNeg))) x3 (x4 + 1) _ _ _ hf hP hD hS (lv_sub hl [2, 3, 4, 5, 0] rfl)
set_option maxHeartbeats 4000000 in
set_option maxRecDepth 100000 in
theorem k_X5_findBest_45 {p : Program} {l : Launch} {e : Env} {s : State} {m : MethodId} {args : Array Value} {below : List Frame} {meth : Method} {c : Code} {A : Nat → Prop} {D : va_G} {k : Nat → ClassId} {a : Nat → Nat} {mm : Int32} {nn : Int32} {we : Nat → Int32} {la : Nat → Int32} {si : Nat → Int32} {it : Nat → Int32} {pa : Nat → Int32} {su : Nat → Int64} {wo : Nat → Int32} {le : Int32} {pp : Nat → Int32} {qq : Nat → Int32} {ro : Nat → Int32} {lo : Nat → Int32} {lp : Nat → Int32} {lq : Nat → Int32} {rp : Nat → Int32} {rq : Nat → Int32} {se : Nat → Int32} {no : Nat → Int64} {ne : Nat → Int64} {x1 : Int32} {x2 : Int32} (C0 : xM p s m args meth c cX5_findBest 7 RX5 none wsX5_findBest) (hG : xG D k s) {post : (Nat → Int32) → Prop} {k2 : (Nat → Int32) → Int32 → Prop} (hk2 : ∀ (be : Nat → Int32) (x3 : Int32) (H : Heap) (locs : List Loc) (ls : Array Slot), k2 be x3 → va_P D vwCl (wM k a mm nn we la si it be pa su wo le pp qq ro lo lp lq rp rq se no ne) H → va_D A (wM k a mm nn we la si it be pa su wo le pp qq ro lo lp lq rp rq se no ne) → va_S A s.heap H locs → lv_has ls 7 [(0, .ref (a 0)), (1, .int x1), (2, .int x2), (3, .int x3)] → W p l e ({ frames := 1, cells := 0, slots := 0, locals := 21 }) s m args below meth c H locs 0 0 (MQ below (va_Qv (fun (u : (Nat → Int32)) => post u) (fun u t => va_P D vwCl (wM k a mm nn we la si it u pa su wo le pp qq ro lo lp lq rp rq se no ne) t.heap) A) args s 0 0 A) (F0 m 2 ls [])) {k13 : (Nat → Int32) → Int32 → Int32 → Prop} (hk13 : ∀ (be : Nat → Int32) (x3 : Int32) (x4 : Int32) (H : Heap) (locs : List Loc) (ls : Array Slot), k13 be x3 x4 → va_P D vwCl (wM k a mm nn we la si it be pa su wo le pp qq ro lo lp lq rp rq se no ne) H → va_D A (wM k a mm nn we la si it be pa su wo le pp qq ro lo lp lq rp rq se no ne) → va_S A s.heap H locs → lv_has ls 7 [(0, .ref (a 0)), (1, .int x1), (2, .int x2), (3, .int x3), (4, .int x4)] → W p l e ({ frames := 1, cells := 0, slots := 0, locals := 21 }) s m args below meth c H locs 0 0 (MQ below (va_Qv (fun (u : (Nat → Int32)) => post u) (fun u t => va_P D vwCl (wM k a mm nn we la si it u pa su wo le pp qq ro lo lp lq rp rq se no ne) t.heap) A) args s 0 0 A) (F0 m 13 ls [])) : ∀ (be : Nat → Int32) (x3 : Int32) (x4 : Int32) (s0 : Int32) (H : Heap) (locs : List Loc) (ls : Array Slot), p_X5_findBest_45 mm nn we x1 x2 post k2 k13 be x3 x4 s0 → va_P D vwCl (wM k a mm nn we la si it be pa su wo le pp qq ro lo lp lq rp rq se no ne) H → va_D A (wM k a mm nn we la si it be pa su wo le pp qq ro lo lp lq rp rq se no ne) → va_S A s.heap H locs → lv_has ls 7 [(0, .ref (a 0)), (1, .int x1), (2, .int x2), (3, .int x3), (4, .int x4)] → W p l e ({ frames := 1, cells := 0, slots := 0, locals := 21 }) s m args below meth c H locs 0 0 (MQ below (va_Qv (fun (u : (Nat → Int32)) => post u) (fun u t => va_P D vwCl (wM k a mm nn we la si it u pa su wo le pp qq ro lo lp lq rp rq se no ne) t.heap) A) args s 0 0 A) (F0 m 45 ls [.int s0]) := by
  obtain ⟨hx, hb, hr, hts, hown, hlocks, hml⟩ := id C0
  intro be x3 x4 s0 H locs ls hf hP hD hS hl
  unfold p_X5_findBest_45 at hf
  refine lv_istore (lv' := [(5, .int s0), (0, .ref (a 0)), (1, .int x1), (2, .int x2), (3, .int x3), (4, .int x4)]) hx hb dX5_findBest_45 hl (by decide) rfl (fun ls hl => ?_)
  refine lv_iload hx hb dX5_findBest_47 (lv_at hl 5 rfl) ?_
  refine lv_iload_n hx hb dX5_findBest_49 rfl (lv_at hl 3 rfl) ?_
  refine lv_icmp_le (tgt := 70) hx hb dX5_findBest_50 (by decide) (fun c_4 => ?_) (fun c_4 => ?_)
  · have hf := hf.1 c_4
    refine lv_iconst (v := 0) hx hb dX5_findBest_70 (by decide) ?_
    exact k_X5_findBest_71 C0 hG hk2 hk13 be x3 x4 s0 0 _ _ _ hf hP hD hS (lv_sub hl [1, 2, 3, 4, 5, 0] rfl)
  · have hf := hf.2 c_4
    refine lv_aload_n hx hb dX5_findBest_53 rfl (lv_at hl 1 rfl) ?_
    refine va_get (D := D) (ci := 5) (C := RX5) (T := TX5) (N := 22) hx hb hts in_X5_findBest_X5 hown hG.1 hP 0 rfl rfl 6 (by decide) (hts _ lk_X5_findBest_29) (fun _ h9 => h9) rfl dX5_findBest_54 ?_
    refine lv_bipush (v := 6) hx hb dX5_findBest_57 (by decide) ?_
    refine lv_iload_n hx hb dX5_findBest_59 rfl (lv_at hl 4 rfl) ?_
    refine lv_imul hx hb dX5_findBest_60 ?_
    refine lv_iload hx hb dX5_findBest_61 (lv_at hl 5 rfl) ?_
    refine lv_iadd hx hb dX5_findBest_63 ?_
    refine lv_iconst (v := 1) hx hb dX5_findBest_64 (by decide) ?_
    refine lv_isub hx hb dX5_findBest_65 ?_
    obtain ⟨h_8, hf⟩ := hf
    refine va_iald hx hb hG.1 hP 5 0 rfl rfl h_8 dX5_findBest_66 ?_
    refine lv_goto (tgt := 71) hx hb dX5_findBest_67 (by decide) ?_
    exact k_X5_findBest_71 C0 hG hk2 hk13 be x3 x4 s0 (be (((6 * x3) + x4) - 1).toNatClampNeg) _ _ _ hf hP hD hS (lv_sub hl [1, 2, 3, 4, 5, 0] rfl)
set_option maxHeartbeats 4000000 in
set_option maxRecDepth 100000 in
theorem k_X5_findBest_13 {p : Program} {l : Launch} {e : Env} {s : State} {m : MethodId} {args : Array Value} {below : List Frame} {meth : Method} {c : Code} {A : Nat → Prop} {D : va_G} {k : Nat → ClassId} {a : Nat → Nat} {mm : Int32} {nn : Int32} {we : Nat → Int32} {la : Nat → Int32} {si : Nat → Int32} {it : Nat → Int32} {pa : Nat → Int32} {su : Nat → Int64} {wo : Nat → Int32} {le : Int32} {pp : Nat → Int32} {qq : Nat → Int32} {ro : Nat → Int32} {lo : Nat → Int32} {lp : Nat → Int32} {lq : Nat → Int32} {rp : Nat → Int32} {rq : Nat → Int32} {se : Nat → Int32} {no : Nat → Int64} {ne : Nat → Int64} {x1 : Int32} {x2 : Int32} (C0 : xM p s m args meth c cX5_findBest 7 RX5 none wsX5_findBest) (hG : xG D k s) {post : (Nat → Int32) → Prop} {k2 : (Nat → Int32) → Int32 → Prop} (hk2 : ∀ (be : Nat → Int32) (x3 : Int32) (H : Heap) (locs : List Loc) (ls : Array Slot), k2 be x3 → va_P D vwCl (wM k a mm nn we la si it be pa su wo le pp qq ro lo lp lq rp rq se no ne) H → va_D A (wM k a mm nn we la si it be pa su wo le pp qq ro lo lp lq rp rq se no ne) → va_S A s.heap H locs → lv_has ls 7 [(0, .ref (a 0)), (1, .int x1), (2, .int x2), (3, .int x3)] → W p l e ({ frames := 1, cells := 0, slots := 0, locals := 21 }) s m args below meth c H locs 0 0 (MQ below (va_Qv (fun (u : (Nat → Int32)) => post u) (fun u t => va_P D vwCl (wM k a mm nn we la si it u pa su wo le pp qq ro lo lp lq rp rq se no ne) t.heap) A) args s 0 0 A) (F0 m 2 ls [])) : ∀ (n : Nat) (be : Nat → Int32) (x3 : Int32) (x4 : Int32) (H : Heap) (locs : List Loc) (ls : Array Slot), p_X5_findBest_13 mm nn we x1 x2 post k2 n be x3 x4 → va_P D vwCl (wM k a mm nn we la si it be pa su wo le pp qq ro lo lp lq rp rq se no ne) H → va_D A (wM k a mm nn we la si it be pa su wo le pp qq ro lo lp lq rp rq se no ne) → va_S A s.heap H locs → lv_has ls 7 [(0, .ref (a 0)), (1, .int x1), (2, .int x2), (3, .int x3), (4, .int x4)] → W p l e ({ frames := 1, cells := 0, slots := 0, locals := 21 }) s m args below meth c H locs 0 0 (MQ below (va_Qv (fun (u : (Nat → Int32)) => post u) (fun u t => va_P D vwCl (wM k a mm nn we la si it u pa su wo le pp qq ro lo lp lq rp rq se no ne) t.heap) A) args s 0 0 A) (F0 m 13 ls []) := by
  obtain ⟨hx, hb, hr, hts, hown, hlocks, hml⟩ := id C0
  intro n
  induction n with
  | zero =>
    intro be x3 x4 H locs ls hf
    exact False.elim hf
  | succ n ih =>
    intro be x3 x4 H locs ls hf hP hD hS hl
    unfold p_X5_findBest_13 at hf
    refine lv_iload hx hb dX5_findBest_13 (lv_at hl 4 rfl) ?_
    refine lv_aload_n hx hb dX5_findBest_15 rfl (lv_at hl 0 rfl) ?_
    refine va_get (D := D) (ci := 5) (C := RX5) (T := TX5) (N := 22) hx hb hts in_X5_findBest_X5 hown hG.1 hP 0 rfl rfl 1 (by decide) (hts _ lk_X5_findBest_13) (fun _ h9 => h9) rfl dX5_findBest_16 ?_
    refine lv_icmp_ge (tgt := 111) hx hb dX5_findBest_19 (by decide) (fun c_2 => ?_) (fun c_2 => ?_)
    · have hf := hf.1 c_2
      refine lv_iinc (v := x3 + 1) (lv' := [(3, .int (x3 + 1)), (0, .ref (a 0)), (1, .int x1), (2, .int x2), (4, .int x4)]) hx hb dX5_findBest_111 hl (k := 3) rfl rfl (by decide) rfl (fun ls hl => ?_)
      refine lv_goto (tgt := 2) hx hb dX5_findBest_114 (by decide) ?_
      exact hk2 be (x3 + 1) _ _ _ hf hP hD hS (lv_sub hl [1, 2, 3, 0] rfl)
    · have hf := hf.2 c_2
      refine lv_iload_n hx hb dX5_findBest_22 rfl (lv_at hl 3 rfl) ?_
      refine lv_iload_n hx hb dX5_findBest_23 rfl (lv_at hl 1 rfl) ?_
      refine lv_icmp_le (tgt := 44) hx hb dX5_findBest_24 (by decide) (fun c_3 => ?_) (fun c_3 => ?_)
      · have hf := hf.1 c_3
        refine lv_iconst (v := 0) hx hb dX5_findBest_44 (by decide) ?_
        exact k_X5_findBest_45 C0 hG hk2 ih be x3 x4 0 _ _ _ hf hP hD hS (lv_sub hl [0, 1, 2, 3, 4] rfl)
      · have hf := hf.2 c_3
        refine lv_aload_n hx hb dX5_findBest_27 rfl (lv_at hl 0 rfl) ?_
        refine va_get (D := D) (ci := 5) (C := RX5) (T := TX5) (N := 22) hx hb hts in_X5_findBest_X5 hown hG.1 hP 0 rfl rfl 6 (by decide) (hts _ lk_X5_findBest_29) (fun _ h9 => h9) rfl dX5_findBest_28 ?_
        refine lv_bipush (v := 6) hx hb dX5_findBest_31 (by decide) ?_
        refine lv_iload_n hx hb dX5_findBest_33 rfl (lv_at hl 3 rfl) ?_
        refine lv_iconst (v := 1) hx hb dX5_findBest_34 (by decide) ?_
        refine lv_isub hx hb dX5_findBest_35 ?_
        refine lv_imul hx hb dX5_findBest_36 ?_
        refine lv_iload hx hb dX5_findBest_37 (lv_at hl 4 rfl) ?_
        refine lv_iadd hx hb dX5_findBest_39 ?_
        obtain ⟨h_9, hf⟩ := hf
        refine va_iald hx hb hG.1 hP 5 0 rfl rfl h_9 dX5_findBest_40 ?_
        refine lv_goto (tgt := 45) hx hb dX5_findBest_41 (by decide) ?_
        exact k_X5_findBest_45 C0 hG hk2 ih be x3 x4 (be ((6 * (x3 - 1)) + x4).toNatClampNeg) _ _ _ hf hP hD hS (lv_sub hl [0, 1, 2, 3, 4] rfl)
set_option maxHeartbeats 4000000 in
set_option maxRecDepth 100000 in
theorem k_X5_findBest_2 {p : Program} {l : Launch} {e : Env} {s : State} {m : MethodId} {args : Array Value} {below : List Frame} {meth : Method} {c : Code} {A : Nat → Prop} {D : va_G} {k : Nat → ClassId} {a : Nat → Nat} {mm : Int32} {nn : Int32} {we : Nat → Int32} {la : Nat → Int32} {si : Nat → Int32} {it : Nat → Int32} {pa : Nat → Int32} {su : Nat → Int64} {wo : Nat → Int32} {le : Int32} {pp : Nat → Int32} {qq : Nat → Int32} {ro : Nat → Int32} {lo : Nat → Int32} {lp : Nat → Int32} {lq : Nat → Int32} {rp : Nat → Int32} {rq : Nat → Int32} {se : Nat → Int32} {no : Nat → Int64} {ne : Nat → Int64} {x1 : Int32} {x2 : Int32} (C0 : xM p s m args meth c cX5_findBest 7 RX5 none wsX5_findBest) (hG : xG D k s) {post : (Nat → Int32) → Prop} : ∀ (n : Nat) (be : Nat → Int32) (x3 : Int32) (H : Heap) (locs : List Loc) (ls : Array Slot), p_X5_findBest_2 mm nn we x1 x2 post n be x3 → va_P D vwCl (wM k a mm nn we la si it be pa su wo le pp qq ro lo lp lq rp rq se no ne) H → va_D A (wM k a mm nn we la si it be pa su wo le pp qq ro lo lp lq rp rq se no ne) → va_S A s.heap H locs → lv_has ls 7 [(0, .ref (a 0)), (1, .int x1), (2, .int x2), (3, .int x3)] → W p l e ({ frames := 1, cells := 0, slots := 0, locals := 21 }) s m args below meth c H locs 0 0 (MQ below (va_Qv (fun (u : (Nat → Int32)) => post u) (fun u t => va_P D vwCl (wM k a mm nn we la si it u pa su wo le pp qq ro lo lp lq rp rq se no ne) t.heap) A) args s 0 0 A) (F0 m 2 ls []) := by
  obtain ⟨hx, hb, hr, hts, hown, hlocks, hml⟩ := id C0
  intro n
  induction n with
  | zero =>
    intro be x3 H locs ls hf
    exact False.elim hf
  | succ n ih =>
    intro be x3 H locs ls hf hP hD hS hl
    unfold p_X5_findBest_2 at hf
    refine lv_iload_n hx hb dX5_findBest_2 rfl (lv_at hl 3 rfl) ?_
    refine lv_aload_n hx hb dX5_findBest_3 rfl (lv_at hl 0 rfl) ?_
    refine va_get (D := D) (ci := 5) (C := RX5) (T := TX5) (N := 22) hx hb hts in_X5_findBest_X5 hown hG.1 hP 0 rfl rfl 0 (by decide) (hts _ lk_X5_findBest_7) (fun _ h9 => h9) rfl dX5_findBest_4 ?_
    refine lv_icmp_ge (tgt := 117) hx hb dX5_findBest_7 (by decide) (fun c_1 => ?_) (fun c_1 => ?_)
    · have hf := hf.1 c_1
      exact W.vret hx hb hr (fun t ht hW => ⟨⟨be, rfl, hf, xHp ht hP⟩, hS.F ht⟩) hS.2.2 dX5_findBest_117 hlocks
    · have hf := hf.2 c_1
      refine lv_iload_n hx hb dX5_findBest_10 rfl (lv_at hl 2 rfl) ?_
      refine lv_istore (lv' := [(4, .int x2), (0, .ref (a 0)), (1, .int x1), (2, .int x2), (3, .int x3)]) hx hb dX5_findBest_11 hl (by decide) rfl (fun ls hl => ?_)
      obtain ⟨n_10, hf⟩ := hf
      exact k_X5_findBest_13 C0 hG ih n_10 be x3 x2 _ _ _ hf hP hD hS (lv_sub hl [1, 2, 3, 4, 0] rfl)
set_option maxHeartbeats 4000000 in
set_option maxRecDepth 100000 in
theorem c_X5_findBest {l : Launch} {D : va_G} {k : Nat → ClassId} (a : Nat → Nat) (mm : Int32) (nn : Int32) (we : Nat → Int32) (la : Nat → Int32) (si : Nat → Int32) (it : Nat → Int32) (be : Nat → Int32) (pa : Nat → Int32) (su : Nat → Int64) (wo : Nat → Int32) (le : Int32) (pp : Nat → Int32) (qq : Nat → Int32) (ro : Nat → Int32) (lo : Nat → Int32) (lp : Nat → Int32) (lq : Nat → Int32) (rp : Nat → Int32) (rq : Nat → Int32) (se : Nat → Int32) (no : Nat → Int64) (ne : Nat → Int64) (x1 : Int32) (x2 : Int32) {post : (Nat → Int32) → Prop} (hf : p_X5_findBest mm nn we be x1 x2 post) : ctV l yX5_findBest wsX5_findBest ({ frames := 1, cells := 0, slots := 0, locals := 21 }) D k [.ref (a 0), .int x1, .int x2] (wM k a mm nn we la si it be pa su wo le pp qq ro lo lp lq rp rq se no ne) (fun u : (Nat → Int32) => wM k a mm nn we la si it u pa su wo le pp qq ro lo lp lq rp rq se no ne) (fun (u : (Nat → Int32)) => post u) := by
  refine Met.ofW (cc := cX5_findBest) (maxL := 7) (ret := none) (by decide) rfl ?_
  intro p e s m args below meth c s₁ B hml hv
  obtain ⟨rfl, hP, hG, hD0⟩ := hv
  have C0 : xM p s m ([.ref (a 0), .int x1, .int x2] : List Value).toArray meth c cX5_findBest 7 RX5 none wsX5_findBest := ⟨B.exec, B.bytes, B.returns, atoms_spec (ws := wsX5_findBest) B.pre, findClass_of_methodNamed B.named, B.notSynchronized, hml⟩
  obtain ⟨hx, hb, hr, hts, hown, hlocks, hml⟩ := id C0
  have hD := xSelf hD0
  have hS : va_S (xIn (wM k a mm nn we la si it be pa su wo le pp qq ro lo lp lq rp rq se no ne)) s.heap s.heap [] := va_S.rf
  generalize xIn (wM k a mm nn we la si it be pa su wo le pp qq ro lo lp lq rp rq se no ne) = A at hD hS ⊢
  have hl := lv_entry ([.ref (a 0), .int x1, .int x2]) (n := 7) (Nat.le_of_ble_eq_true rfl)
  rw [lg_entry_eq]
  generalize (lg_sl ([.ref (a 0), .int x1, .int x2]) ++ List.replicate (7 - (lg_sl ([.ref (a 0), .int x1, .int x2])).length) Slot.unset).toArray = ls at hl ⊢
  have hl : lv_has ls 7 [(0, .ref (a 0)), (1, .int x1), (2, .int x2)] := hl
  unfold p_X5_findBest at hf
  refine lv_iload_n hx hb dX5_findBest_0 rfl (lv_at hl 1 rfl) ?_
  refine lv_istore_n (lv' := [(3, .int x1), (0, .ref (a 0)), (1, .int x1), (2, .int x2)]) hx hb dX5_findBest_1 rfl hl (by decide) rfl (fun ls hl => ?_)
  obtain ⟨n_11, hf⟩ := hf
  exact k_X5_findBest_2 C0 hG n_11 be x1 _ _ _ hf hP hD hS (lv_sub hl [1, 2, 3, 0] rfl)

def p_X5_best (mm : Int32) (nn : Int32) (we : Nat → Int32) (be : Nat → Int32) (x1 : Int32) (x2 : Int32) (post : Int32 → (Nat → Int32) → Prop) : Prop := p_X5_isPlace mm nn x1 x2 (fun r_1 => ((r_1 = 0 → post (-1) be) ∧ (¬ r_1 = 0 → p_X5_findBest mm nn we be 0 0 (fun be_3 => (vp_in ((6 * x1) + x2) 36 ∧ post (be_3 ((6 * x1) + x2).toNatClampNeg) be_3)))))
theorem in_X5_best_X5 : ∀ w ∈ u_ws RX5 TX5 22, w ∈ wsX5_best := by decide +kernel
theorem lk_X5_best_29 : Cond.fieldLink RX5 29 "GrowingCornersModel" "best" "[I" ∈ wsX5_best := by decide +kernel
set_option maxHeartbeats 4000000 in
set_option maxRecDepth 100000 in
theorem c_X5_best {l : Launch} {D : va_G} {k : Nat → ClassId} (a : Nat → Nat) (mm : Int32) (nn : Int32) (we : Nat → Int32) (la : Nat → Int32) (si : Nat → Int32) (it : Nat → Int32) (be : Nat → Int32) (pa : Nat → Int32) (su : Nat → Int64) (wo : Nat → Int32) (le : Int32) (pp : Nat → Int32) (qq : Nat → Int32) (ro : Nat → Int32) (lo : Nat → Int32) (lp : Nat → Int32) (lq : Nat → Int32) (rp : Nat → Int32) (rq : Nat → Int32) (se : Nat → Int32) (no : Nat → Int64) (ne : Nat → Int64) (x1 : Int32) (x2 : Int32) {post : Int32 → (Nat → Int32) → Prop} (hf : p_X5_best mm nn we be x1 x2 post) : ctI l yX5_best wsX5_best ({ frames := 2, cells := 0, slots := 0, locals := 47 }) D k [.ref (a 0), .int x1, .int x2] (wM k a mm nn we la si it be pa su wo le pp qq ro lo lp lq rp rq se no ne) (fun u : (Nat → Int32) => wM k a mm nn we la si it u pa su wo le pp qq ro lo lp lq rp rq se no ne) (fun (r : Int32) (u : (Nat → Int32)) => post r u) := by
  refine Met.ofW (cc := cX5_best) (maxL := 3) (ret := (some .int)) (by decide) rfl ?_
  intro p e s m args below meth c s₁ B hml hv
  obtain ⟨rfl, hP, hG, hD0⟩ := hv
  have C0 : xM p s m ([.ref (a 0), .int x1, .int x2] : List Value).toArray meth c cX5_best 3 RX5 (some .int) wsX5_best := ⟨B.exec, B.bytes, B.returns, atoms_spec (ws := wsX5_best) B.pre, findClass_of_methodNamed B.named, B.notSynchronized, hml⟩
  obtain ⟨hx, hb, hr, hts, hown, hlocks, hml⟩ := id C0
  have hD := xSelf hD0
  have hS : va_S (xIn (wM k a mm nn we la si it be pa su wo le pp qq ro lo lp lq rp rq se no ne)) s.heap s.heap [] := va_S.rf
  generalize xIn (wM k a mm nn we la si it be pa su wo le pp qq ro lo lp lq rp rq se no ne) = A at hD hS ⊢
  have hl := lv_entry ([.ref (a 0), .int x1, .int x2]) (n := 3) (Nat.le_of_ble_eq_true rfl)
  rw [lg_entry_eq]
  generalize (lg_sl ([.ref (a 0), .int x1, .int x2]) ++ List.replicate (3 - (lg_sl ([.ref (a 0), .int x1, .int x2])).length) Slot.unset).toArray = ls at hl ⊢
  have hl : lv_has ls 3 [(0, .ref (a 0)), (1, .int x1), (2, .int x2)] := hl
  unfold p_X5_best at hf
  refine lv_aload_n hx hb dX5_best_0 rfl (lv_at hl 0 rfl) ?_
  refine lv_iload_n hx hb dX5_best_1 rfl (lv_at hl 1 rfl) ?_
  refine lv_iload_n hx hb dX5_best_2 rfl (lv_at hl 2 rfl) ?_
  have hp : xPerm (wM k a mm nn we la si it be pa su wo le pp qq ro lo lp lq rp rq se no ne) ((wM k a mm nn we la si it be pa su wo le pp qq ro lo lp lq rp rq se no ne) ++ ([])) := xPermNil
  refine xCallI (w := wM k a mm nn we la si it be pa su wo le pp qq ro lo lp lq rp rq se no ne) (r := []) (va_runV (As := [.int x1, .int x2]) (rest := []) ⟨hx, hb, hml, hown, hts⟩ (c_X5_isPlace a mm nn we la si it be pa su wo le pp qq ro lo lp lq rp rq se no ne x1 x2 hf) (cwV 2 hts gX5_best_X5_isPlace rfl rfl rfl (by decide +kernel) ⟨Nat.le_of_ble_eq_true rfl, Nat.le_of_ble_eq_true rfl⟩) (xPreV hG hP hD hp (ci := 5) rfl (i := 0) rfl) rfl rfl hl.1 rfl (lv_room (Nat.le_of_ble_eq_true rfl)) dX5_best_3 ⟨Nat.zero_le _, Nat.zero_le _⟩) hP hD hS hp (fun _ => rfl) (fun r_1 _ H locs hf hP hD hS => ?_)
  have hP : va_P D vwCl (wM k a mm nn we la si it be pa su wo le pp qq ro lo lp lq rp rq se no ne) H := xNilP hP
  have hD : va_D A (wM k a mm nn we la si it be pa su wo le pp qq ro lo lp lq rp rq se no ne) := xNilD hD
  refine lv_if_ne (tgt := 11) hx hb dX5_best_6 (by decide) (fun c_2 => ?_) (fun c_2 => ?_)
  · have hf := hf.2 c_2
    refine lv_aload_n hx hb dX5_best_11 rfl (lv_at hl 0 rfl) ?_
    refine lv_iconst (v := 0) hx hb dX5_best_12 (by decide) ?_
    refine lv_iconst (v := 0) hx hb dX5_best_13 (by decide) ?_
    have hp : xPerm (wM k a mm nn we la si it be pa su wo le pp qq ro lo lp lq rp rq se no ne) ((wM k a mm nn we la si it be pa su wo le pp qq ro lo lp lq rp rq se no ne) ++ ([])) := xPermNil
    refine xCallV (w := wM k a mm nn we la si it be pa su wo le pp qq ro lo lp lq rp rq se no ne) (r := []) (va_runV (As := [.int 0, .int 0]) (rest := []) ⟨hx, hb, hml, hown, hts⟩ (c_X5_findBest a mm nn we la si it be pa su wo le pp qq ro lo lp lq rp rq se no ne 0 0 hf) (cwV 2 hts gX5_best_X5_findBest rfl rfl rfl (by decide +kernel) ⟨Nat.le_of_ble_eq_true rfl, Nat.le_of_ble_eq_true rfl⟩) (xPreV hG hP hD hp (ci := 5) rfl (i := 0) rfl) rfl rfl hl.1 rfl (lv_room (Nat.le_of_ble_eq_true rfl)) dX5_best_14 ⟨Nat.zero_le _, Nat.zero_le _⟩) hP hD hS hp (fun _ => rfl) (fun be_3 H locs hf hP hD hS => ?_)
    have hP : va_P D vwCl (wM k a mm nn we la si it be_3 pa su wo le pp qq ro lo lp lq rp rq se no ne) H := xNilP hP
    have hD : va_D A (wM k a mm nn we la si it be_3 pa su wo le pp qq ro lo lp lq rp rq se no ne) := xNilD hD
    refine lv_aload_n hx hb dX5_best_17 rfl (lv_at hl 0 rfl) ?_
    refine va_get (D := D) (ci := 5) (C := RX5) (T := TX5) (N := 22) hx hb hts in_X5_best_X5 hown hG.1 hP 0 rfl rfl 6 (by decide) (hts _ lk_X5_best_29) (fun _ h9 => h9) rfl dX5_best_18 ?_
    refine lv_bipush (v := 6) hx hb dX5_best_21 (by decide) ?_
    refine lv_iload_n hx hb dX5_best_23 rfl (lv_at hl 1 rfl) ?_
    refine lv_imul hx hb dX5_best_24 ?_
    refine lv_iload_n hx hb dX5_best_25 rfl (lv_at hl 2 rfl) ?_
    refine lv_iadd hx hb dX5_best_26 ?_
    obtain ⟨h_4, hf⟩ := hf
    refine va_iald hx hb hG.1 hP 5 0 rfl rfl h_4 dX5_best_27 ?_
    exact W.iret (v := (be_3 ((6 * x1) + x2).toNatClampNeg)) hx hb hr (fun t ht hW => ⟨⟨(be_3 ((6 * x1) + x2).toNatClampNeg), be_3, rfl, hf, xHp ht hP⟩, hS.F ht⟩) hS.2.2 dX5_best_28 hlocks
  · have hf := hf.1 c_2
    refine lv_iconst (v := (-1)) hx hb dX5_best_9 (by decide) ?_
    exact W.iret (v := (-1)) hx hb hr (fun t ht hW => ⟨⟨((-1) : Int32), be, rfl, hf, xHp ht hP⟩, hS.F ht⟩) hS.2.2 dX5_best_10 hlocks

def p_X5_between (mm : Int32) (nn : Int32) (we : Nat → Int32) (be : Nat → Int32) (x1 : Int32) (x2 : Int32) (x3 : Int32) (x4 : Int32) (post : Int32 → (Nat → Int32) → Prop) : Prop := p_X5_isPlace mm nn x1 x2 (fun r_1 => ((r_1 = 0 → post (-1) be) ∧ (¬ r_1 = 0 → p_X5_isPlace mm nn x3 x4 (fun r_3 => ((r_3 = 0 → post (-1) be) ∧ (¬ r_3 = 0 → ((x3 < x1 → post (-4) be) ∧ (¬ x3 < x1 → ((x2 ≤ x4 → p_X5_findBest mm nn we be x1 x2 (fun be_7 => (vp_in ((6 * x3) + x4) 36 ∧ post (be_7 ((6 * x3) + x4).toNatClampNeg) be_7))) ∧ (¬ x2 ≤ x4 → post (-4) be))))))))))
theorem in_X5_between_X5 : ∀ w ∈ u_ws RX5 TX5 22, w ∈ wsX5_between := by decide +kernel
theorem lk_X5_between_29 : Cond.fieldLink RX5 29 "GrowingCornersModel" "best" "[I" ∈ wsX5_between := by decide +kernel
set_option maxHeartbeats 4000000 in
set_option maxRecDepth 100000 in
theorem c_X5_between {l : Launch} {D : va_G} {k : Nat → ClassId} (a : Nat → Nat) (mm : Int32) (nn : Int32) (we : Nat → Int32) (la : Nat → Int32) (si : Nat → Int32) (it : Nat → Int32) (be : Nat → Int32) (pa : Nat → Int32) (su : Nat → Int64) (wo : Nat → Int32) (le : Int32) (pp : Nat → Int32) (qq : Nat → Int32) (ro : Nat → Int32) (lo : Nat → Int32) (lp : Nat → Int32) (lq : Nat → Int32) (rp : Nat → Int32) (rq : Nat → Int32) (se : Nat → Int32) (no : Nat → Int64) (ne : Nat → Int64) (x1 : Int32) (x2 : Int32) (x3 : Int32) (x4 : Int32) {post : Int32 → (Nat → Int32) → Prop} (hf : p_X5_between mm nn we be x1 x2 x3 x4 post) : ctI l yX5_between wsX5_between ({ frames := 2, cells := 0, slots := 0, locals := 47 }) D k [.ref (a 0), .int x1, .int x2, .int x3, .int x4] (wM k a mm nn we la si it be pa su wo le pp qq ro lo lp lq rp rq se no ne) (fun u : (Nat → Int32) => wM k a mm nn we la si it u pa su wo le pp qq ro lo lp lq rp rq se no ne) (fun (r : Int32) (u : (Nat → Int32)) => post r u) := by
  refine Met.ofW (cc := cX5_between) (maxL := 5) (ret := (some .int)) (by decide) rfl ?_
  intro p e s m args below meth c s₁ B hml hv
  obtain ⟨rfl, hP, hG, hD0⟩ := hv
  have C0 : xM p s m ([.ref (a 0), .int x1, .int x2, .int x3, .int x4] : List Value).toArray meth c cX5_between 5 RX5 (some .int) wsX5_between := ⟨B.exec, B.bytes, B.returns, atoms_spec (ws := wsX5_between) B.pre, findClass_of_methodNamed B.named, B.notSynchronized, hml⟩
  obtain ⟨hx, hb, hr, hts, hown, hlocks, hml⟩ := id C0
  have hD := xSelf hD0
  have hS : va_S (xIn (wM k a mm nn we la si it be pa su wo le pp qq ro lo lp lq rp rq se no ne)) s.heap s.heap [] := va_S.rf
  generalize xIn (wM k a mm nn we la si it be pa su wo le pp qq ro lo lp lq rp rq se no ne) = A at hD hS ⊢
  have hl := lv_entry ([.ref (a 0), .int x1, .int x2, .int x3, .int x4]) (n := 5) (Nat.le_of_ble_eq_true rfl)
  rw [lg_entry_eq]
  generalize (lg_sl ([.ref (a 0), .int x1, .int x2, .int x3, .int x4]) ++ List.replicate (5 - (lg_sl ([.ref (a 0), .int x1, .int x2, .int x3, .int x4])).length) Slot.unset).toArray = ls at hl ⊢
  have hl : lv_has ls 5 [(0, .ref (a 0)), (1, .int x1), (2, .int x2), (3, .int x3), (4, .int x4)] := hl
  unfold p_X5_between at hf
  refine lv_aload_n hx hb dX5_between_0 rfl (lv_at hl 0 rfl) ?_
  refine lv_iload_n hx hb dX5_between_1 rfl (lv_at hl 1 rfl) ?_
  refine lv_iload_n hx hb dX5_between_2 rfl (lv_at hl 2 rfl) ?_
  have hp : xPerm (wM k a mm nn we la si it be pa su wo le pp qq ro lo lp lq rp rq se no ne) ((wM k a mm nn we la si it be pa su wo le pp qq ro lo lp lq rp rq se no ne) ++ ([])) := xPermNil
  refine xCallI (w := wM k a mm nn we la si it be pa su wo le pp qq ro lo lp lq rp rq se no ne) (r := []) (va_runV (As := [.int x1, .int x2]) (rest := []) ⟨hx, hb, hml, hown, hts⟩ (c_X5_isPlace a mm nn we la si it be pa su wo le pp qq ro lo lp lq rp rq se no ne x1 x2 hf) (cwV 2 hts gX5_between_X5_isPlace rfl rfl rfl (by decide +kernel) ⟨Nat.le_of_ble_eq_true rfl, Nat.le_of_ble_eq_true rfl⟩) (xPreV hG hP hD hp (ci := 5) rfl (i := 0) rfl) rfl rfl hl.1 rfl (lv_room (Nat.le_of_ble_eq_true rfl)) dX5_between_3 ⟨Nat.zero_le _, Nat.zero_le _⟩) hP hD hS hp (fun _ => rfl) (fun r_1 _ H locs hf hP hD hS => ?_)
  have hP : va_P D vwCl (wM k a mm nn we la si it be pa su wo le pp qq ro lo lp lq rp rq se no ne) H := xNilP hP
  have hD : va_D A (wM k a mm nn we la si it be pa su wo le pp qq ro lo lp lq rp rq se no ne) := xNilD hD
  refine lv_if_eq (tgt := 19) hx hb dX5_between_6 (by decide) (fun c_2 => ?_) (fun c_2 => ?_)
  · have hf := hf.1 c_2
    refine lv_iconst (v := (-1)) hx hb dX5_between_19 (by decide) ?_
    exact W.iret (v := (-1)) hx hb hr (fun t ht hW => ⟨⟨((-1) : Int32), be, rfl, hf, xHp ht hP⟩, hS.F ht⟩) hS.2.2 dX5_between_20 hlocks
  · have hf := hf.2 c_2
    refine lv_aload_n hx hb dX5_between_9 rfl (lv_at hl 0 rfl) ?_
    refine lv_iload_n hx hb dX5_between_10 rfl (lv_at hl 3 rfl) ?_
    refine lv_iload hx hb dX5_between_11 (lv_at hl 4 rfl) ?_
    have hp : xPerm (wM k a mm nn we la si it be pa su wo le pp qq ro lo lp lq rp rq se no ne) ((wM k a mm nn we la si it be pa su wo le pp qq ro lo lp lq rp rq se no ne) ++ ([])) := xPermNil
    refine xCallI (w := wM k a mm nn we la si it be pa su wo le pp qq ro lo lp lq rp rq se no ne) (r := []) (va_runV (As := [.int x3, .int x4]) (rest := []) ⟨hx, hb, hml, hown, hts⟩ (c_X5_isPlace a mm nn we la si it be pa su wo le pp qq ro lo lp lq rp rq se no ne x3 x4 hf) (cwV 2 hts gX5_between_X5_isPlace rfl rfl rfl (by decide +kernel) ⟨Nat.le_of_ble_eq_true rfl, Nat.le_of_ble_eq_true rfl⟩) (xPreV hG hP hD hp (ci := 5) rfl (i := 0) rfl) rfl rfl hl.1 rfl (lv_room (Nat.le_of_ble_eq_true rfl)) dX5_between_13 ⟨Nat.zero_le _, Nat.zero_le _⟩) hP hD hS hp (fun _ => rfl) (fun r_3 _ H locs hf hP hD hS => ?_)
    have hP : va_P D vwCl (wM k a mm nn we la si it be pa su wo le pp qq ro lo lp lq rp rq se no ne) H := xNilP hP
    have hD : va_D A (wM k a mm nn we la si it be pa su wo le pp qq ro lo lp lq rp rq se no ne) := xNilD hD
    refine lv_if_ne (tgt := 21) hx hb dX5_between_16 (by decide) (fun c_4 => ?_) (fun c_4 => ?_)
    · have hf := hf.2 c_4
      refine lv_iload_n hx hb dX5_between_21 rfl (lv_at hl 3 rfl) ?_
      refine lv_iload_n hx hb dX5_between_22 rfl (lv_at hl 1 rfl) ?_
      refine lv_icmp_lt (tgt := 32) hx hb dX5_between_23 (by decide) (fun c_5 => ?_) (fun c_5 => ?_)
      · have hf := hf.1 c_5
        refine lv_bipush (v := (-4)) hx hb dX5_between_32 (by decide) ?_
        exact W.iret (v := (-4)) hx hb hr (fun t ht hW => ⟨⟨((-4) : Int32), be, rfl, hf, xHp ht hP⟩, hS.F ht⟩) hS.2.2 dX5_between_34 hlocks
      · have hf := hf.2 c_5
        refine lv_iload hx hb dX5_between_26 (lv_at hl 4 rfl) ?_
        refine lv_iload_n hx hb dX5_between_28 rfl (lv_at hl 2 rfl) ?_
        refine lv_icmp_ge (tgt := 35) hx hb dX5_between_29 (by decide) (fun c_6 => ?_) (fun c_6 => ?_)
        · have hf := hf.1 c_6
          refine lv_aload_n hx hb dX5_between_35 rfl (lv_at hl 0 rfl) ?_
          refine lv_iload_n hx hb dX5_between_36 rfl (lv_at hl 1 rfl) ?_
          refine lv_iload_n hx hb dX5_between_37 rfl (lv_at hl 2 rfl) ?_
          have hp : xPerm (wM k a mm nn we la si it be pa su wo le pp qq ro lo lp lq rp rq se no ne) ((wM k a mm nn we la si it be pa su wo le pp qq ro lo lp lq rp rq se no ne) ++ ([])) := xPermNil
          refine xCallV (w := wM k a mm nn we la si it be pa su wo le pp qq ro lo lp lq rp rq se no ne) (r := []) (va_runV (As := [.int x1, .int x2]) (rest := []) ⟨hx, hb, hml, hown, hts⟩ (c_X5_findBest a mm nn we la si it be pa su wo le pp qq ro lo lp lq rp rq se no ne x1 x2 hf) (cwV 2 hts gX5_between_X5_findBest rfl rfl rfl (by decide +kernel) ⟨Nat.le_of_ble_eq_true rfl, Nat.le_of_ble_eq_true rfl⟩) (xPreV hG hP hD hp (ci := 5) rfl (i := 0) rfl) rfl rfl hl.1 rfl (lv_room (Nat.le_of_ble_eq_true rfl)) dX5_between_38 ⟨Nat.zero_le _, Nat.zero_le _⟩) hP hD hS hp (fun _ => rfl) (fun be_7 H locs hf hP hD hS => ?_)
          have hP : va_P D vwCl (wM k a mm nn we la si it be_7 pa su wo le pp qq ro lo lp lq rp rq se no ne) H := xNilP hP
          have hD : va_D A (wM k a mm nn we la si it be_7 pa su wo le pp qq ro lo lp lq rp rq se no ne) := xNilD hD
          refine lv_aload_n hx hb dX5_between_41 rfl (lv_at hl 0 rfl) ?_
          refine va_get (D := D) (ci := 5) (C := RX5) (T := TX5) (N := 22) hx hb hts in_X5_between_X5 hown hG.1 hP 0 rfl rfl 6 (by decide) (hts _ lk_X5_between_29) (fun _ h9 => h9) rfl dX5_between_42 ?_
          refine lv_bipush (v := 6) hx hb dX5_between_45 (by decide) ?_
          refine lv_iload_n hx hb dX5_between_47 rfl (lv_at hl 3 rfl) ?_
          refine lv_imul hx hb dX5_between_48 ?_
          refine lv_iload hx hb dX5_between_49 (lv_at hl 4 rfl) ?_
          refine lv_iadd hx hb dX5_between_51 ?_
          obtain ⟨h_8, hf⟩ := hf
          refine va_iald hx hb hG.1 hP 5 0 rfl rfl h_8 dX5_between_52 ?_
          exact W.iret (v := (be_7 ((6 * x3) + x4).toNatClampNeg)) hx hb hr (fun t ht hW => ⟨⟨(be_7 ((6 * x3) + x4).toNatClampNeg), be_7, rfl, hf, xHp ht hP⟩, hS.F ht⟩) hS.2.2 dX5_between_53 hlocks
        · have hf := hf.2 c_6
          refine lv_bipush (v := (-4)) hx hb dX5_between_32 (by decide) ?_
          exact W.iret (v := (-4)) hx hb hr (fun t ht hW => ⟨⟨((-4) : Int32), be, rfl, hf, xHp ht hP⟩, hS.F ht⟩) hS.2.2 dX5_between_34 hlocks
    · have hf := hf.1 c_4
      refine lv_iconst (v := (-1)) hx hb dX5_between_19 (by decide) ?_
      exact W.iret (v := (-1)) hx hb hr (fun t ht hW => ⟨⟨((-1) : Int32), be, rfl, hf, xHp ht hP⟩, hS.F ht⟩) hS.2.2 dX5_between_20 hlocks

def p_X5_findShapes_214 (mm : Int32) (nn : Int32) (we : Nat → Int32) (post : (Nat → Int32) → Prop) (k2 : (Nat → Int32) → Int32 → Prop) (k12 : (Nat → Int32) → Int32 → Int32 → Prop) (k33 : (Nat → Int32) → Int32 → Int32 → Int32 → Int32 → Prop) (pa : Nat → Int32) (x1 : Int32) (x2 : Int32) (x3 : Int32) (x4 : Int32) : Prop := k33 pa x1 x2 x3 (x4 + 1)
def p_X5_findShapes_66 (mm : Int32) (nn : Int32) (we : Nat → Int32) (post : (Nat → Int32) → Prop) (k2 : (Nat → Int32) → Int32 → Prop) (k12 : (Nat → Int32) → Int32 → Int32 → Prop) (k33 : (Nat → Int32) → Int32 → Int32 → Int32 → Int32 → Prop) (pa : Nat → Int32) (x1 : Int32) (x2 : Int32) (x3 : Int32) (x4 : Int32) : Prop := (vp_in (x3 + x4) 294 ∧ p_X5_findShapes_214 mm nn we post k2 k12 k33 (upd pa ((x3 + x4).toNatClampNeg) 0) x1 x2 x3 x4)
def p_X5_findShapes_168 (mm : Int32) (nn : Int32) (we : Nat → Int32) (post : (Nat → Int32) → Prop) (k2 : (Nat → Int32) → Int32 → Prop) (k12 : (Nat → Int32) → Int32 → Int32 → Prop) (k33 : (Nat → Int32) → Int32 → Int32 → Int32 → Int32 → Prop) (pa : Nat → Int32) (x1 : Int32) (x2 : Int32) (x3 : Int32) (x4 : Int32) (x5 : Int32) (x6 : Int32) (s0 : Int32) : Prop := (vp_in x5 294 ∧ (vp_in x6 294 ∧ p_X5_greater (pa x5.toNatClampNeg) (pa x6.toNatClampNeg) (fun r_14 => (vp_in (((x3 - 48) + x4) - 1) 294 ∧ (vp_in (x3 + x4) 294 ∧ p_X5_findShapes_214 mm nn we post k2 k12 k33 (upd pa ((x3 + x4).toNatClampNeg) ((r_14 + s0) - (pa (((x3 - 48) + x4) - 1).toNatClampNeg))) x1 x2 x3 x4)))))
def p_X5_findShapes_33 (mm : Int32) (nn : Int32) (we : Nat → Int32) (post : (Nat → Int32) → Prop) (k2 : (Nat → Int32) → Int32 → Prop) (k12 : (Nat → Int32) → Int32 → Int32 → Prop) : Nat → (Nat → Int32) → Int32 → Int32 → Int32 → Int32 → Prop
  | 0, _, _, _, _, _ => False
  | n + 1, pa, x1, x2, x3, x4 => ((6 ≤ x4 → k12 pa x1 (x2 + 1)) ∧ (¬ 6 ≤ x4 → ((x1 = 0 → p_X5_findShapes_66 mm nn we post k2 k12 (fun pa x1 x2 x3 x4 => p_X5_findShapes_33 mm nn we post k2 k12 n pa x1 x2 x3 x4) pa x1 x2 x3 x4) ∧ (¬ x1 = 0 → ((x2 = 0 → p_X5_findShapes_66 mm nn we post k2 k12 (fun pa x1 x2 x3 x4 => p_X5_findShapes_33 mm nn we post k2 k12 n pa x1 x2 x3 x4) pa x1 x2 x3 x4) ∧ (¬ x2 = 0 → ((x4 = 0 → (vp_in ((x3 - 42) + x4) 294 ∧ (vp_in ((x3 - 6) + x4) 294 ∧ p_X5_greater (pa ((x3 - 42) + x4).toNatClampNeg) (pa ((x3 - 6) + x4).toNatClampNeg) (fun r_20 => (vp_in (((6 * (x1 - 1)) + x2) - 1) 36 ∧ (vp_in x3 294 ∧ p_X5_findShapes_214 mm nn we post k2 k12 (fun pa x1 x2 x3 x4 => p_X5_findShapes_33 mm nn we post k2 k12 n pa x1 x2 x3 x4) (upd pa (x3.toNatClampNeg) (r_20 + (we (((6 * (x1 - 1)) + x2) - 1).toNatClampNeg))) x1 x2 x3 x4)))))) ∧ (¬ x4 = 0 → (vp_in (((x3 - 42) + x4) - 1) 294 ∧ (vp_in (((x3 - 6) + x4) - 1) 294 ∧ (((pa (((x3 - 6) + x4) - 1).toNatClampNeg) ≤ (pa (((x3 - 42) + x4) - 1).toNatClampNeg) → (vp_in (((x3 - 6) + x4) - 1) 294 ∧ p_X5_findShapes_168 mm nn we post k2 k12 (fun pa x1 x2 x3 x4 => p_X5_findShapes_33 mm nn we post k2 k12 n pa x1 x2 x3 x4) pa x1 x2 x3 x4 ((x3 - 42) + x4) ((x3 - 6) + x4) (pa (((x3 - 6) + x4) - 1).toNatClampNeg))) ∧ (¬ (pa (((x3 - 6) + x4) - 1).toNatClampNeg) ≤ (pa (((x3 - 42) + x4) - 1).toNatClampNeg) → (vp_in (((x3 - 42) + x4) - 1) 294 ∧ p_X5_findShapes_168 mm nn we post k2 k12 (fun pa x1 x2 x3 x4 => p_X5_findShapes_33 mm nn we post k2 k12 n pa x1 x2 x3 x4) pa x1 x2 x3 x4 ((x3 - 42) + x4) ((x3 - 6) + x4) (pa (((x3 - 42) + x4) - 1).toNatClampNeg))))))))))))))
def p_X5_findShapes_12 (mm : Int32) (nn : Int32) (we : Nat → Int32) (post : (Nat → Int32) → Prop) (k2 : (Nat → Int32) → Int32 → Prop) : Nat → (Nat → Int32) → Int32 → Int32 → Prop
  | 0, _, _, _ => False
  | n + 1, pa, x1, x2 => ((nn < x2 → k2 pa (x1 + 1)) ∧ (¬ nn < x2 → (∃ n_23, p_X5_findShapes_33 mm nn we post k2 (fun pa x1 x2 => p_X5_findShapes_12 mm nn we post k2 n pa x1 x2) n_23 pa x1 x2 (6 * ((7 * x1) + x2)) 0)))
def p_X5_findShapes_2 (mm : Int32) (nn : Int32) (we : Nat → Int32) (post : (Nat → Int32) → Prop) : Nat → (Nat → Int32) → Int32 → Prop
  | 0, _, _ => False
  | n + 1, pa, x1 => ((mm < x1 → post pa) ∧ (¬ mm < x1 → (∃ n_24, p_X5_findShapes_12 mm nn we post (fun pa x1 => p_X5_findShapes_2 mm nn we post n pa x1) n_24 pa x1 0)))
def p_X5_findShapes (mm : Int32) (nn : Int32) (we : Nat → Int32) (pa : Nat → Int32) (post : (Nat → Int32) → Prop) : Prop := (∃ n_25, p_X5_findShapes_2 mm nn we post n_25 pa 0)
theorem in_X5_findShapes_X5 : ∀ w ∈ u_ws RX5 TX5 22, w ∈ wsX5_findShapes := by decide +kernel
theorem lk_X5_findShapes_13 : Cond.fieldLink RX5 13 "GrowingCornersModel" "n" "I" ∈ wsX5_findShapes := by decide +kernel
theorem lk_X5_findShapes_16 : Cond.fieldLink RX5 16 "GrowingCornersModel" "weights" "[I" ∈ wsX5_findShapes := by decide +kernel
theorem lk_X5_findShapes_32 : Cond.fieldLink RX5 32 "GrowingCornersModel" "parts" "[I" ∈ wsX5_findShapes := by decide +kernel
theorem lk_X5_findShapes_7 : Cond.fieldLink RX5 7 "GrowingCornersModel" "m" "I" ∈ wsX5_findShapes := by decide +kernel
set_option maxHeartbeats 4000000 in
set_option maxRecDepth 100000 in
theorem k_X5_findShapes_214 {p : Program} {l : Launch} {e : Env} {s : State} {m : MethodId} {args : Array Value} {below : List Frame} {meth : Method} {c : Code} {A : Nat → Prop} {D : va_G} {k : Nat → ClassId} {a : Nat → Nat} {mm : Int32} {nn : Int32} {we : Nat → Int32} {la : Nat → Int32} {si : Nat → Int32} {it : Nat → Int32} {be : Nat → Int32} {su : Nat → Int64} {wo : Nat → Int32} {le : Int32} {pp : Nat → Int32} {qq : Nat → Int32} {ro : Nat → Int32} {lo : Nat → Int32} {lp : Nat → Int32} {lq : Nat → Int32} {rp : Nat → Int32} {rq : Nat → Int32} {se : Nat → Int32} {no : Nat → Int64} {ne : Nat → Int64} (C0 : xM p s m args meth c cX5_findShapes 8 RX5 none wsX5_findShapes) (hG : xG D k s) {post : (Nat → Int32) → Prop} {k2 : (Nat → Int32) → Int32 → Prop} (hk2 : ∀ (pa : Nat → Int32) (x1 : Int32) (H : Heap) (locs : List Loc) (ls : Array Slot), k2 pa x1 → va_P D vwCl (wM k a mm nn we la si it be pa su wo le pp qq ro lo lp lq rp rq se no ne) H → va_D A (wM k a mm nn we la si it be pa su wo le pp qq ro lo lp lq rp rq se no ne) → va_S A s.heap H locs → lv_has ls 8 [(0, .ref (a 0)), (1, .int x1)] → W p l e ({ frames := 1, cells := 0, slots := 0, locals := 21 }) s m args below meth c H locs 0 0 (MQ below (va_Qv (fun (u : (Nat → Int32)) => post u) (fun u t => va_P D vwCl (wM k a mm nn we la si it be u su wo le pp qq ro lo lp lq rp rq se no ne) t.heap) A) args s 0 0 A) (F0 m 2 ls [])) {k12 : (Nat → Int32) → Int32 → Int32 → Prop} (hk12 : ∀ (pa : Nat → Int32) (x1 : Int32) (x2 : Int32) (H : Heap) (locs : List Loc) (ls : Array Slot), k12 pa x1 x2 → va_P D vwCl (wM k a mm nn we la si it be pa su wo le pp qq ro lo lp lq rp rq se no ne) H → va_D A (wM k a mm nn we la si it be pa su wo le pp qq ro lo lp lq rp rq se no ne) → va_S A s.heap H locs → lv_has ls 8 [(0, .ref (a 0)), (1, .int x1), (2, .int x2)] → W p l e ({ frames := 1, cells := 0, slots := 0, locals := 21 }) s m args below meth c H locs 0 0 (MQ below (va_Qv (fun (u : (Nat → Int32)) => post u) (fun u t => va_P D vwCl (wM k a mm nn we la si it be u su wo le pp qq ro lo lp lq rp rq se no ne) t.heap) A) args s 0 0 A) (F0 m 12 ls [])) {k33 : (Nat → Int32) → Int32 → Int32 → Int32 → Int32 → Prop} (hk33 : ∀ (pa : Nat → Int32) (x1 : Int32) (x2 : Int32) (x3 : Int32) (x4 : Int32) (H : Heap) (locs : List Loc) (ls : Array Slot), k33 pa x1 x2 x3 x4 → va_P D vwCl (wM k a mm nn we la si it be pa su wo le pp qq ro lo lp lq rp rq se no ne) H → va_D A (wM k a mm nn we la si it be pa su wo le pp qq ro lo lp lq rp rq se no ne) → va_S A s.heap H locs → lv_has ls 8 [(0, .ref (a 0)), (1, .int x1), (2, .int x2), (3, .int x3), (4, .int x4)] → W p l e ({ frames := 1, cells := 0, slots := 0, locals := 21 }) s m args below meth c H locs 0 0 (MQ below (va_Qv (fun (u : (Nat → Int32)) => post u) (fun u t => va_P D vwCl (wM k a mm nn we la si it be u su wo le pp qq ro lo lp lq rp rq se no ne) t.heap) A) args s 0 0 A) (F0 m 33 ls [])) : ∀ (pa : Nat → Int32) (x1 : Int32) (x2 : Int32) (x3 : Int32) (x4 : Int32) (H : Heap) (locs : List Loc) (ls : Array Slot), p_X5_findShapes_214 mm nn we post k2 k12 k33 pa x1 x2 x3 x4 → va_P D vwCl (wM k a mm nn we la si it be pa su wo le pp qq ro lo lp lq rp rq se no ne) H → va_D A (wM k a mm nn we la si it be pa su wo le pp qq ro lo lp lq rp rq se no ne) → va_S A s.heap H locs → lv_has ls 8 [(0, .ref (a 0)), (1, .int x1), (2, .int x2), (3, .int x3), (4, .int x4)] → W p l e ({ frames := 1, cells := 0, slots := 0, locals := 21 }) s m args below meth c H locs 0 0 (MQ below (va_Qv (fun (u : (Nat → Int32)) => post u) (fun u t => va_P D vwCl (wM k a mm nn we la si it be u su wo le pp qq ro lo lp lq rp rq se no ne) t.heap) A) args s 0 0 A) (F0 m 214 ls []) := by
  obtain ⟨hx, hb, hr, hts, hown, hlocks, hml⟩ := id C0
  intro pa x1 x2 x3 x4 H locs ls hf hP hD hS hl
  unfold p_X5_findShapes_214 at hf
  refine lv_iinc (v := x4 + 1) (lv' := [(4, .int (x4 + 1)), (0, .ref (a 0)), (1, .int x1), (2, .int x2), (3, .int x3)]) hx hb dX5_findShapes_214 hl (k := 4) rfl rfl (by decide) rfl (fun ls hl => ?_)
  refine lv_goto (tgt := 33) hx hb dX5_findShapes_217 (by decide) ?_
  exact hk33 pa x1 x2 x3 (x4 + 1) _ _ _ hf hP hD hS (lv_sub hl [1, 2, 3, 4, 0] rfl)
set_option maxHeartbeats 4000000 in
set_option maxRecDepth 100000 in
theorem k_X5_findShapes_66 {p : Program} {l : Launch} {e : Env} {s : State} {m : MethodId} {args : Array Value} {below : List Frame} {meth : Method} {c : Code} {A : Nat → Prop} {D : va_G} {k : Nat → ClassId} {a : Nat → Nat} {mm : Int32} {nn : Int32} {we : Nat → Int32} {la : Nat → Int32} {si : Nat → Int32} {it : Nat → Int32} {be : Nat → Int32} {su : Nat → Int64} {wo : Nat → Int32} {le : Int32} {pp : Nat → Int32} {qq : Nat → Int32} {ro : Nat → Int32} {lo : Nat → Int32} {lp : Nat → Int32} {lq : Nat → Int32} {rp : Nat → Int32} {rq : Nat → Int32} {se : Nat → Int32} {no : Nat → Int64} {ne : Nat → Int64} (C0 : xM p s m args meth c cX5_findShapes 8 RX5 none wsX5_findShapes) (hG : xG D k s) {post : (Nat → Int32) → Prop} {k2 : (Nat → Int32) → Int32 → Prop} (hk2 : ∀ (pa : Nat → Int32) (x1 : Int32) (H : Heap) (locs : List Loc) (ls : Array Slot), k2 pa x1 → va_P D vwCl (wM k a mm nn we la si it be pa su wo le pp qq ro lo lp lq rp rq se no ne) H → va_D A (wM k a mm nn we la si it be pa su wo le pp qq ro lo lp lq rp rq se no ne) → va_S A s.heap H locs → lv_has ls 8 [(0, .ref (a 0)), (1, .int x1)] → W p l e ({ frames := 1, cells := 0, slots := 0, locals := 21 }) s m args below meth c H locs 0 0 (MQ below (va_Qv (fun (u : (Nat → Int32)) => post u) (fun u t => va_P D vwCl (wM k a mm nn we la si it be u su wo le pp qq ro lo lp lq rp rq se no ne) t.heap) A) args s 0 0 A) (F0 m 2 ls [])) {k12 : (Nat → Int32) → Int32 → Int32 → Prop} (hk12 : ∀ (pa : Nat → Int32) (x1 : Int32) (x2 : Int32) (H : Heap) (locs : List Loc) (ls : Array Slot), k12 pa x1 x2 → va_P D vwCl (wM k a mm nn we la si it be pa su wo le pp qq ro lo lp lq rp rq se no ne) H → va_D A (wM k a mm nn we la si it be pa su wo le pp qq ro lo lp lq rp rq se no ne) → va_S A s.heap H locs → lv_has ls 8 [(0, .ref (a 0)), (1, .int x1), (2, .int x2)] → W p l e ({ frames := 1, cells := 0, slots := 0, locals := 21 }) s m args below meth c H locs 0 0 (MQ below (va_Qv (fun (u : (Nat → Int32)) => post u) (fun u t => va_P D vwCl (wM k a mm nn we la si it be u su wo le pp qq ro lo lp lq rp rq se no ne) t.heap) A) args s 0 0 A) (F0 m 12 ls [])) {k33 : (Nat → Int32) → Int32 → Int32 → Int32 → Int32 → Prop} (hk33 : ∀ (pa : Nat → Int32) (x1 : Int32) (x2 : Int32) (x3 : Int32) (x4 : Int32) (H : Heap) (locs : List Loc) (ls : Array Slot), k33 pa x1 x2 x3 x4 → va_P D vwCl (wM k a mm nn we la si it be pa su wo le pp qq ro lo lp lq rp rq se no ne) H → va_D A (wM k a mm nn we la si it be pa su wo le pp qq ro lo lp lq rp rq se no ne) → va_S A s.heap H locs → lv_has ls 8 [(0, .ref (a 0)), (1, .int x1), (2, .int x2), (3, .int x3), (4, .int x4)] → W p l e ({ frames := 1, cells := 0, slots := 0, locals := 21 }) s m args below meth c H locs 0 0 (MQ below (va_Qv (fun (u : (Nat → Int32)) => post u) (fun u t => va_P D vwCl (wM k a mm nn we la si it be u su wo le pp qq ro lo lp lq rp rq se no ne) t.heap) A) args s 0 0 A) (F0 m 33 ls [])) : ∀ (pa : Nat → Int32) (x1 : Int32) (x2 : Int32) (x3 : Int32) (x4 : Int32) (H : Heap) (locs : List Loc) (ls : Array Slot), p_X5_findShapes_66 mm nn we post k2 k12 k33 pa x1 x2 x3 x4 → va_P D vwCl (wM k a mm nn we la si it be pa su wo le pp qq ro lo lp lq rp rq se no ne) H → va_D A (wM k a mm nn we la si it be pa su wo le pp qq ro lo lp lq rp rq se no ne) → va_S A s.heap H locs → lv_has ls 8 [(0, .ref (a 0)), (1, .int x1), (2, .int x2), (3, .int x3), (4, .int x4)] → W p l e ({ frames := 1, cells := 0, slots := 0, locals := 21 }) s m args below meth c H locs 0 0 (MQ below (va_Qv (fun (u : (Nat → Int32)) => post u) (fun u t => va_P D vwCl (wM k a mm nn we la si it be u su wo le pp qq ro lo lp lq rp rq se no ne) t.heap) A) args s 0 0 A) (F0 m 66 ls []) := by
  obtain ⟨hx, hb, hr, hts, hown, hlocks, hml⟩ := id C0
  intro pa x1 x2 x3 x4 H locs ls hf hP hD hS hl
  unfold p_X5_findShapes_66 at hf
  refine lv_aload_n hx hb dX5_findShapes_66 rfl (lv_at hl 0 rfl) ?_
  refine va_get (D := D) (ci := 5) (C := RX5) (T := TX5) (N := 22) hx hb hts in_X5_findShapes_X5 hown hG.1 hP 0 rfl rfl 7 (by decide) (hts _ lk_X5_findShapes_32) (fun _ h9 => h9) rfl dX5_findShapes_67 ?_
  refine lv_iload_n hx hb dX5_findShapes_70 rfl (lv_at hl 3 rfl) ?_
  refine lv_iload hx hb dX5_findShapes_71 (lv_at hl 4 rfl) ?_
  refine lv_iadd hx hb dX5_findShapes_73 ?_
  refine lv_iconst (v := 0) hx hb dX5_findShapes_74 (by decide) ?_
  obtain ⟨h_5, hf⟩ := hf
  refine va_iast hx hb hG.1 hP hD hS 6 0 rfl rfl h_5 dX5_findShapes_75 (fun H locs hP hD hS => ?_)
  have hP : va_P D vwCl (wM k a mm nn we la si it be (upd pa ((x3 + x4).toNatClampNeg) 0) su wo le pp qq ro lo lp lq rp rq se no ne) H := hP
  have hD : va_D A (wM k a mm nn we la si it be (upd pa ((x3 + x4).toNatClampNeg) 0) su wo le pp qq ro lo lp lq rp rq se no ne) := hD
  refine lv_goto (tgt := 214) hx hb dX5_findShapes_76 (by decide) ?_
  exact k_X5_findShapes_214 C0 hG hk2 hk12 hk33 (upd pa ((x3 + x4).toNatClampNeg) 0) x1 x2 x3 x4 _ _ _ hf hP hD hS (lv_sub hl [0, 1, 2, 3, 4] rfl)
set_option maxHeartbeats 4000000 in
set_option maxRecDepth 100000 in
theorem k_X5_findShapes_168 {p : Program} {l : Launch} {e : Env} {s : State} {m : MethodId} {args : Array Value} {below : List Frame} {meth : Method} {c : Code} {A : Nat → Prop} {D : va_G} {k : Nat → ClassId} {a : Nat → Nat} {mm : Int32} {nn : Int32} {we : Nat → Int32} {la : Nat → Int32} {si : Nat → Int32} {it : Nat → Int32} {be : Nat → Int32} {su : Nat → Int64} {wo : Nat → Int32} {le : Int32} {pp : Nat → Int32} {qq : Nat → Int32} {ro : Nat → Int32} {lo : Nat → Int32} {lp : Nat → Int32} {lq : Nat → Int32} {rp : Nat → Int32} {rq : Nat → Int32} {se : Nat → Int32} {no : Nat → Int64} {ne : Nat → Int64} (C0 : xM p s m args meth c cX5_findShapes 8 RX5 none wsX5_findShapes) (hG : xG D k s) {post : (Nat → Int32) → Prop} {k2 : (Nat → Int32) → Int32 → Prop} (hk2 : ∀ (pa : Nat → Int32) (x1 : Int32) (H : Heap) (locs : List Loc) (ls : Array Slot), k2 pa x1 → va_P D vwCl (wM k a mm nn we la si it be pa su wo le pp qq ro lo lp lq rp rq se no ne) H → va_D A (wM k a mm nn we la si it be pa su wo le pp qq ro lo lp lq rp rq se no ne) → va_S A s.heap H locs → lv_has ls 8 [(0, .ref (a 0)), (1, .int x1)] → W p l e ({ frames := 1, cells := 0, slots := 0, locals := 21 }) s m args below meth c H locs 0 0 (MQ below (va_Qv (fun (u : (Nat → Int32)) => post u) (fun u t => va_P D vwCl (wM k a mm nn we la si it be u su wo le pp qq ro lo lp lq rp rq se no ne) t.heap) A) args s 0 0 A) (F0 m 2 ls [])) {k12 : (Nat → Int32) → Int32 → Int32 → Prop} (hk12 : ∀ (pa : Nat → Int32) (x1 : Int32) (x2 : Int32) (H : Heap) (locs : List Loc) (ls : Array Slot), k12 pa x1 x2 → va_P D vwCl (wM k a mm nn we la si it be pa su wo le pp qq ro lo lp lq rp rq se no ne) H → va_D A (wM k a mm nn we la si it be pa su wo le pp qq ro lo lp lq rp rq se no ne) → va_S A s.heap H locs → lv_has ls 8 [(0, .ref (a 0)), (1, .int x1), (2, .int x2)] → W p l e ({ frames := 1, cells := 0, slots := 0, locals := 21 }) s m args below meth c H locs 0 0 (MQ below (va_Qv (fun (u : (Nat → Int32)) => post u) (fun u t => va_P D vwCl (wM k a mm nn we la si it be u su wo le pp qq ro lo lp lq rp rq se no ne) t.heap) A) args s 0 0 A) (F0 m 12 ls [])) {k33 : (Nat → Int32) → Int32 → Int32 → Int32 → Int32 → Prop} (hk33 : ∀ (pa : Nat → Int32) (x1 : Int32) (x2 : Int32) (x3 : Int32) (x4 : Int32) (H : Heap) (locs : List Loc) (ls : Array Slot), k33 pa x1 x2 x3 x4 → va_P D vwCl (wM k a mm nn we la si it be pa su wo le pp qq ro lo lp lq rp rq se no ne) H → va_D A (wM k a mm nn we la si it be pa su wo le pp qq ro lo lp lq rp rq se no ne) → va_S A s.heap H locs → lv_has ls 8 [(0, .ref (a 0)), (1, .int x1), (2, .int x2), (3, .int x3), (4, .int x4)] → W p l e ({ frames := 1, cells := 0, slots := 0, locals := 21 }) s m args below meth c H locs 0 0 (MQ below (va_Qv (fun (u : (Nat → Int32)) => post u) (fun u t => va_P D vwCl (wM k a mm nn we la si it be u su wo le pp qq ro lo lp lq rp rq se no ne) t.heap) A) args s 0 0 A) (F0 m 33 ls [])) : ∀ (pa : Nat → Int32) (x1 : Int32) (x2 : Int32) (x3 : Int32) (x4 : Int32) (x5 : Int32) (x6 : Int32) (s0 : Int32) (H : Heap) (locs : List Loc) (ls : Array Slot), p_X5_findShapes_168 mm nn we post k2 k12 k33 pa x1 x2 x3 x4 x5 x6 s0 → va_P D vwCl (wM k a mm nn we la si it be pa su wo le pp qq ro lo lp lq rp rq se no ne) H → va_D A (wM k a mm nn we la si it be pa su wo le pp qq ro lo lp lq rp rq se no ne) → va_S A s.heap H locs → lv_has ls 8 [(0, .ref (a 0)), (1, .int x1), (2, .int x2), (3, .int x3), (4, .int x4), (5, .int x5), (6, .int x6)] → W p l e ({ frames := 1, cells := 0, slots := 0, locals := 21 }) s m args below meth c H locs 0 0 (MQ below (va_Qv (fun (u : (Nat → Int32)) => post u) (fun u t => va_P D vwCl (wM k a mm nn we la si it be u su wo le pp qq ro lo lp lq rp rq se no ne) t.heap) A) args s 0 0 A) (F0 m 168 ls [.int s0]) := by
  obtain ⟨hx, hb, hr, hts, hown, hlocks, hml⟩ := id C0
  intro pa x1 x2 x3 x4 x5 x6 s0 H locs ls hf hP hD hS hl
  unfold p_X5_findShapes_168 at hf
  refine lv_istore (lv' := [(7, .int s0), (0, .ref (a 0)), (1, .int x1), (2, .int x2), (3, .int x3), (4, .int x4), (5, .int x5), (6, .int x6)]) hx hb dX5_findShapes_168 hl (by decide) rfl (fun ls hl => ?_)
  refine lv_aload_n hx hb dX5_findShapes_170 rfl (lv_at hl 1 rfl) ?_
  refine va_get (D := D) (ci := 5) (C := RX5) (T := TX5) (N := 22) hx hb hts in_X5_findShapes_X5 hown hG.1 hP 0 rfl rfl 7 (by decide) (hts _ lk_X5_findShapes_32) (fun _ h9 => h9) rfl dX5_findShapes_171 ?_
  refine lv_iload_n hx hb dX5_findShapes_174 rfl (lv_at hl 4 rfl) ?_
  refine lv_iload hx hb dX5_findShapes_175 (lv_at hl 5 rfl) ?_
  refine lv_iadd hx hb dX5_findShapes_177 ?_
  refine lv_aload_n hx hb dX5_findShapes_178 rfl (lv_at hl 1 rfl) ?_
  refine va_get (D := D) (ci := 5) (C := RX5) (T := TX5) (N := 22) hx hb hts in_X5_findShapes_X5 hown hG.1 hP 0 rfl rfl 7 (by decide) (hts _ lk_X5_findShapes_32) (fun _ h9 => h9) rfl dX5_findShapes_179 ?_
  refine lv_iload hx hb dX5_findShapes_182 (lv_at hl 6 rfl) ?_
  obtain ⟨h_12, hf⟩ := hf
  refine va_iald hx hb hG.1 hP 6 0 rfl rfl h_12 dX5_findShapes_184 ?_
  refine lv_aload_n hx hb dX5_findShapes_185 rfl (lv_at hl 1 rfl) ?_
  refine va_get (D := D) (ci := 5) (C := RX5) (T := TX5) (N := 22) hx hb hts in_X5_findShapes_X5 hown hG.1 hP 0 rfl rfl 7 (by decide) (hts _ lk_X5_findShapes_32) (fun _ h9 => h9) rfl dX5_findShapes_186 ?_
  refine lv_iload hx hb dX5_findShapes_189 (lv_at hl 7 rfl) ?_
  obtain ⟨h_13, hf⟩ := hf
  refine va_iald hx hb hG.1 hP 6 0 rfl rfl h_13 dX5_findShapes_191 ?_
  have hp : xPerm (wM k a mm nn we la si it be pa su wo le pp qq ro lo lp lq rp rq se no ne) (([]) ++ (wM k a mm nn we la si it be pa su wo le pp qq ro lo lp lq rp rq se no ne)) := (List.Perm.refl _)
  refine xCallI (w := []) (r := wM k a mm nn we la si it be pa su wo le pp qq ro lo lp lq rp rq se no ne) (va_runS (As := [.int (pa x5.toNatClampNeg), .int (pa x6.toNatClampNeg)]) (rest := [.int (x3 + x4), .ref (a 6)]) ⟨hx, hb, hml, hown, hts⟩ (c_X5_greater (pa x5.toNatClampNeg) (pa x6.toNatClampNeg) hf) (va_cwS 2 hts gX5_findShapes_X5_greater rfl rfl rfl (by decide +kernel) ⟨Nat.le_of_ble_eq_true rfl, Nat.le_of_ble_eq_true rfl⟩) (xPreS hG hP hD hp) rfl rfl hl.1 rfl (lv_room (Nat.le_of_ble_eq_true rfl)) dX5_findShapes_192 ⟨Nat.zero_le _, Nat.zero_le _⟩) hP hD hS hp (fun _ => rfl) (fun r_14 _ H locs hf hP hD hS => ?_)
  have hP : va_P D vwCl (wM k a mm nn we la si it be pa su wo le pp qq ro lo lp lq rp rq se no ne) H := hP
  have hD : va_D A (wM k a mm nn we la si it be pa su wo le pp qq ro lo lp lq rp rq se no ne) := hD
  refine lv_iload hx hb dX5_findShapes_195 (lv_at hl 0 rfl) ?_
  refine lv_iadd hx hb dX5_findShapes_197 ?_
  refine lv_aload_n hx hb dX5_findShapes_198 rfl (lv_at hl 1 rfl) ?_
  refine va_get (D := D) (ci := 5) (C := RX5) (T := TX5) (N := 22) hx hb hts in_X5_findShapes_X5 hown hG.1 hP 0 rfl rfl 7 (by decide) (hts _ lk_X5_findShapes_32) (fun _ h9 => h9) rfl dX5_findShapes_199 ?_
  refine lv_iload_n hx hb dX5_findShapes_202 rfl (lv_at hl 4 rfl) ?_
  refine lv_bipush (v := 48) hx hb dX5_findShapes_203 (by decide) ?_
  refine lv_isub hx hb dX5_findShapes_205 ?_
  refine lv_iload hx hb dX5_findShapes_206 (lv_at hl 5 rfl) ?_
  refine lv_iadd hx hb dX5_findShapes_208 ?_
  refine lv_iconst (v := 1) hx hb dX5_findShapes_209 (by decide) ?_
  refine lv_isub hx hb dX5_findShapes_210 ?_
  obtain ⟨h_15, hf⟩ := hf
  refine va_iald hx hb hG.1 hP 6 0 rfl rfl h_15 dX5_findShapes_211 ?_
  refine lv_isub hx hb dX5_findShapes_212 ?_
  obtain ⟨h_16, hf⟩ := hf
  refine va_iast hx hb hG.1 hP hD hS 6 0 rfl rfl h_16 dX5_findShapes_213 (fun H locs hP hD hS => ?_)
  have hP : va_P D vwCl (wM k a mm nn we la si it be (upd pa ((x3 + x4).toNatClampNeg) ((r_14 + s0) - (pa (((x3 - 48) + x4) - 1).toNatClampNeg))) su wo le pp qq ro lo lp lq rp rq se no ne) H := hP
  have hD : va_D A (wM k a mm nn we la si it be (upd pa ((x3 + x4).toNatClampNeg) ((r_14 + s0) - (pa (((x3 - 48) + x4) - 1).toNatClampNeg))) su wo le pp qq ro lo lp lq rp rq se no ne) := hD
  exact k_X5_findShapes_214 C0 hG hk2 hk12 hk33 (upd pa ((x3 + x4).toNatClampNeg) ((r_14 + s0) - (pa (((x3 - 48) + x4) - 1).toNatClampNeg))) x1 x2 x3 x4 _ _ _ hf hP hD hS (lv_sub hl [1, 2, 3, 4, 5] rfl)
set_option maxHeartbeats 4000000 in
set_option maxRecDepth 100000 in
theorem k_X5_findShapes_33 {p : Program} {l : Launch} {e : Env} {s : State} {m : MethodId} {args : Array Value} {below : List Frame} {meth : Method} {c : Code} {A : Nat → Prop} {D : va_G} {k : Nat → ClassId} {a : Nat → Nat} {mm : Int32} {nn : Int32} {we : Nat → Int32} {la : Nat → Int32} {si : Nat → Int32} {it : Nat → Int32} {be : Nat → Int32} {su : Nat → Int64} {wo : Nat → Int32} {le : Int32} {pp : Nat → Int32} {qq : Nat → Int32} {ro : Nat → Int32} {lo : Nat → Int32} {lp : Nat → Int32} {lq : Nat → Int32} {rp : Nat → Int32} {rq : Nat → Int32} {se : Nat → Int32} {no : Nat → Int64} {ne : Nat → Int64} (C0 : xM p s m args meth c cX5_findShapes 8 RX5 none wsX5_findShapes) (hG : xG D k s) {post : (Nat → Int32) → Prop} {k2 : (Nat → Int32) → Int32 → Prop} (hk2 : ∀ (pa : Nat → Int32) (x1 : Int32) (H : Heap) (locs : List Loc) (ls : Array Slot), k2 pa x1 → va_P D vwCl (wM k a mm nn we la si it be pa su wo le pp qq ro lo lp lq rp rq se no ne) H → va_D A (wM k a mm nn we la si it be pa su wo le pp qq ro lo lp lq rp rq se no ne) → va_S A s.heap H locs → lv_has ls 8 [(0, .ref (a 0)), (1, .int x1)] → W p l e ({ frames := 1, cells := 0, slots := 0, locals := 21 }) s m args below meth c H locs 0 0 (MQ below (va_Qv (fun (u : (Nat → Int32)) => post u) (fun u t => va_P D vwCl (wM k a mm nn we la si it be u su wo le pp qq ro lo lp lq rp rq se no ne) t.heap) A) args s 0 0 A) (F0 m 2 ls [])) {k12 : (Nat → Int32) → Int32 → Int32 → Prop} (hk12 : ∀ (pa : Nat → Int32) (x1 : Int32) (x2 : Int32) (H : Heap) (locs : List Loc) (ls : Array Slot), k12 pa x1 x2 → va_P D vwCl (wM k a mm nn we la si it be pa su wo le pp qq ro lo lp lq rp rq se no ne) H → va_D A (wM k a mm nn we la si it be pa su wo le pp qq ro lo lp lq rp rq se no ne) → va_S A s.heap H locs → lv_has ls 8 [(0, .ref (a 0)), (1, .int x1), (2, .int x2)] → W p l e ({ frames := 1, cells := 0, slots := 0, locals := 21 }) s m args below meth c H locs 0 0 (MQ below (va_Qv (fun (u : (Nat → Int32)) => post u) (fun u t => va_P D vwCl (wM k a mm nn we la si it be u su wo le pp qq ro lo lp lq rp rq se no ne) t.heap) A) args s 0 0 A) (F0 m 12 ls [])) : ∀ (n : Nat) (pa : Nat → Int32) (x1 : Int32) (x2 : Int32) (x3 : Int32) (x4 : Int32) (H : Heap) (locs : List Loc) (ls : Array Slot), p_X5_findShapes_33 mm nn we post k2 k12 n pa x1 x2 x3 x4 → va_P D vwCl (wM k a mm nn we la si it be pa su wo le pp qq ro lo lp lq rp rq se no ne) H → va_D A (wM k a mm nn we la si it be pa su wo le pp qq ro lo lp lq rp rq se no ne) → va_S A s.heap H locs → lv_has ls 8 [(0, .ref (a 0)), (1, .int x1), (2, .int x2), (3, .int x3), (4, .int x4)] → W p l e ({ frames := 1, cells := 0, slots := 0, locals := 21 }) s m args below meth c H locs 0 0 (MQ below (va_Qv (fun (u : (Nat → Int32)) => post u) (fun u t => va_P D vwCl (wM k a mm nn we la si it be u su wo le pp qq ro lo lp lq rp rq se no ne) t.heap) A) args s 0 0 A) (F0 m 33 ls []) := by
  obtain ⟨hx, hb, hr, hts, hown, hlocks, hml⟩ := id C0
  intro n
  induction n with
  | zero =>
    intro pa x1 x2 x3 x4 H locs ls hf
    exact False.elim hf
  | succ n ih =>
    intro pa x1 x2 x3 x4 H locs ls hf hP hD hS hl
    unfold p_X5_findShapes_33 at hf
    refine lv_iload hx hb dX5_findShapes_33 (lv_at hl 4 rfl) ?_
    refine lv_bipush (v := 6) hx hb dX5_findShapes_35 (by decide) ?_
    refine lv_icmp_ge (tgt := 220) hx hb dX5_findShapes_37 (by decide) (fun c_3 => ?_) (fun c_3 => ?_)
    · have hf := hf.1 c_3
      refine lv_iinc (v := x2 + 1) (lv' := [(2, .int (x2 + 1)), (0, .ref (a 0)), (1, .int x1), (3, .int x3), (4, .int x4)]) hx hb dX5_findShapes_220 hl (k := 2) rfl rfl (by decide) rfl (fun ls hl => ?_)
      refine lv_goto (tgt := 12) hx hb dX5_findShapes_223 (by decide) ?_
      exact hk12 pa x1 (x2 + 1) _ _ _ hf hP hD hS (lv_sub hl [1, 2, 0] rfl)
    · have hf := hf.2 c_3
      refine lv_iload_n hx hb dX5_findShapes_40 rfl (lv_at hl 3 rfl) ?_
      refine lv_bipush (v := 42) hx hb dX5_findShapes_41 (by decide) ?_
      refine lv_isub hx hb dX5_findShapes_43 ?_
      refine lv_iload hx hb dX5_findShapes_44 (lv_at hl 4 rfl) ?_
      refine lv_iadd hx hb dX5_findShapes_46 ?_
      refine lv_istore (lv' := [(5, .int ((x3 - 42) + x4)), (0, .ref (a 0)), (1, .int x1), (2, .int x2), (3, .int x3), (4, .int x4)]) hx hb dX5_findShapes_47 hl (by decide) rfl (fun ls hl => ?_)
      refine lv_iload_n hx hb dX5_findShapes_49 rfl (lv_at hl 4 rfl) ?_
      refine lv_bipush (v := 6) hx hb dX5_findShapes_50 (by decide) ?_
      refine lv_isub hx hb dX5_findShapes_52 ?_
      refine lv_iload hx hb dX5_findShapes_53 (lv_at hl 5 rfl) ?_
      refine lv_iadd hx hb dX5_findShapes_55 ?_
      refine lv_istore (lv' := [(6, .int ((x3 - 6) + x4)), (5, .int ((x3 - 42) + x4)), (0, .ref (a 0)), (1, .int x1), (2, .int x2), (3, .int x3), (4, .int x4)]) hx hb dX5_findShapes_56 hl (by decide) rfl (fun ls hl => ?_)
      refine lv_iload_n hx hb dX5_findShapes_58 rfl (lv_at hl 3 rfl) ?_
      refine lv_if_eq (tgt := 66) hx hb dX5_findShapes_59 (by decide) (fun c_4 => ?_) (fun c_4 => ?_)
      · have hf := hf.1 c_4
        exact k_X5_findShapes_66 C0 hG hk2 hk12 ih pa x1 x2 x3 x4 _ _ _ hf hP hD hS (lv_sub hl [2, 3, 4, 5, 6] rfl)
      · have hf := hf.2 c_4
        refine lv_iload_n hx hb dX5_findShapes_62 rfl (lv_at hl 4 rfl) ?_
        refine lv_if_ne (tgt := 79) hx hb dX5_findShapes_63 (by decide) (fun c_6 => ?_) (fun c_6 => ?_)
        · have hf := hf.2 c_6
          refine lv_iload hx hb dX5_findShapes_79 (lv_at hl 6 rfl) ?_
          refine lv_if_ne (tgt := 126) hx hb dX5_findShapes_81 (by decide) (fun c_7 => ?_) (fun c_7 => ?_)
          · have hf := hf.2 c_7
            refine lv_aload_n hx hb dX5_findShapes_126 rfl (lv_at hl 2 rfl) ?_
            refine va_get (D := D) (ci := 5) (C := RX5) (T := TX5) (N := 22) hx hb hts in_X5_findShapes_X5 hown hG.1 hP 0 rfl rfl 7 (by decide) (hts _ lk_X5_findShapes_32) (fun _ h9 => h9) rfl dX5_findShapes_127 ?_
            refine lv_iload hx hb dX5_findShapes_130 (lv_at hl 1 rfl) ?_
            refine lv_iconst (v := 1) hx hb dX5_findShapes_132 (by decide) ?_
            refine lv_isub hx hb dX5_findShapes_133 ?_
            obtain ⟨h_8, hf⟩ := hf
            refine va_iald hx hb hG.1 hP 6 0 rfl rfl h_8 dX5_findShapes_134 ?_
            refine lv_aload_n hx hb dX5_findShapes_135 rfl (lv_at hl 2 rfl) ?_
            refine va_get (D := D) (ci := 5) (C := RX5) (T := TX5) (N := 22) hx hb hts in_X5_findShapes_X5 hown hG.1 hP 0 rfl rfl 7 (by decide) (hts _ lk_X5_findShapes_32) (fun _ h9 => h9) rfl dX5_findShapes_136 ?_
            refine lv_iload hx hb dX5_findShapes_139 (lv_at hl 0 rfl) ?_
            refine lv_iconst (v := 1) hx hb dX5_findShapes_141 (by decide) ?_
            refine lv_isub hx hb dX5_findShapes_142 ?_
            obtain ⟨h_9, hf⟩ := hf
            refine va_iald hx hb hG.1 hP 6 0 rfl rfl h_9 dX5_findShapes_143 ?_
            refine lv_icmp_ge (tgt := 159) hx hb dX5_findShapes_144 (by decide) (fun c_10 => ?_) (fun c_10 => ?_)
            · have hf := hf.1 c_10
              refine lv_aload_n hx hb dX5_findShapes_159 rfl (lv_at hl 2 rfl) ?_
              refine va_get (D := D) (ci := 5) (C := RX5) (T := TX5) (N := 22) hx hb hts in_X5_findShapes_X5 hown hG.1 hP 0 rfl rfl 7 (by decide) (hts _ lk_X5_findShapes_32) (fun _ h9 => h9) rfl dX5_findShapes_160 ?_
              refine lv_iload hx hb dX5_findShapes_163 (lv_at hl 0 rfl) ?_
              refine lv_iconst (v := 1) hx hb dX5_findShapes_165 (by decide) ?_
              refine lv_isub hx hb dX5_findShapes_166 ?_
              obtain ⟨h_11, hf⟩ := hf
              refine va_iald hx hb hG.1 hP 6 0 rfl rfl h_11 dX5_findShapes_167 ?_
              exact k_X5_findShapes_168 C0 hG hk2 hk12 ih pa x1 x2 x3 x4 ((x3 - 42) + x4) ((x3 - 6) + x4) (pa (((x3 - 6) + x4) - 1).toNatClampNeg) _ _ _ hf hP hD hS (lv_sub hl [2, 3, 4, 5, 6, 1, 0] rfl)
            · have hf := hf.2 c_10
              refine lv_aload_n hx hb dX5_findShapes_147 rfl (lv_at hl 2 rfl) ?_
              refine va_get (D := D) (ci := 5) (C := RX5) (T := TX5) (N := 22) hx hb hts in_X5_findShapes_X5 hown hG.1 hP 0 rfl rfl 7 (by decide) (hts _ lk_X5_findShapes_32) (fun _ h9 => h9) rfl dX5_findShapes_148 ?_
              refine lv_iload hx hb dX5_findShapes_151 (lv_at hl 1 rfl) ?_
              refine lv_iconst (v := 1) hx hb dX5_findShapes_153 (by decide) ?_
              refine lv_isub hx hb dX5_findShapes_154 ?_
              obtain ⟨h_17, hf⟩ := hf
              refine va_iald hx hb hG.1 hP 6 0 rfl rfl h_17 dX5_findShapes_155 ?_
              refine lv_goto (tgt := 168) hx hb dX5_findShapes_156 (by decide) ?_
              exact k_X5_findShapes_168 C0 hG hk2 hk12 ih pa x1 x2 x3 x4 ((x3 - 42) + x4) ((x3 - 6) + x4) (pa (((x3 - 42) + x4) - 1).toNatClampNeg) _ _ _ hf hP hD hS (lv_sub hl [2, 3, 4, 5, 6, 1, 0] rfl)
          · have hf := hf.1 c_7
            refine lv_aload_n hx hb dX5_findShapes_84 rfl (lv_at hl 2 rfl) ?_
            refine va_get (D := D) (ci := 5) (C := RX5) (T := TX5) (N := 22) hx hb hts in_X5_findShapes_X5 hown hG.1 hP 0 rfl rfl 7 (by decide) (hts _ lk_X5_findShapes_32) (fun _ h9 => h9) rfl dX5_findShapes_85 ?_
            refine lv_iload_n hx hb dX5_findShapes_88 rfl (lv_at hl 5 rfl) ?_
            refine lv_aload_n hx hb dX5_findShapes_89 rfl (lv_at hl 2 rfl) ?_
            refine va_get (D := D) (ci := 5) (C := RX5) (T := TX5) (N := 22) hx hb hts in_X5_findShapes_X5 hown hG.1 hP 0 rfl rfl 7 (by decide) (hts _ lk_X5_findShapes_32) (fun _ h9 => h9) rfl dX5_findShapes_90 ?_
            refine lv_iload hx hb dX5_findShapes_93 (lv_at hl 1 rfl) ?_
            obtain ⟨h_18, hf⟩ := hf
            refine va_iald hx hb hG.1 hP 6 0 rfl rfl h_18 dX5_findShapes_95 ?_
            refine lv_aload_n hx hb dX5_findShapes_96 rfl (lv_at hl 2 rfl) ?_
            refine va_get (D := D) (ci := 5) (C := RX5) (T := TX5) (N := 22) hx hb hts in_X5_findShapes_X5 hown hG.1 hP 0 rfl rfl 7 (by decide) (hts _ lk_X5_findShapes_32) (fun _ h9 => h9) rfl dX5_findShapes_97 ?_
            refine lv_iload hx hb dX5_findShapes_100 (lv_at hl 0 rfl) ?_
            obtain ⟨h_19, hf⟩ := hf
            refine va_iald hx hb hG.1 hP 6 0 rfl rfl h_19 dX5_findShapes_102 ?_
            have hp : xPerm (wM k a mm nn we la si it be pa su wo le pp qq ro lo lp lq rp rq se no ne) (([]) ++ (wM k a mm nn we la si it be pa su wo le pp qq ro lo lp lq rp rq se no ne)) := (List.Perm.refl _)
            refine xCallI (w := []) (r := wM k a mm nn we la si it be pa su wo le pp qq ro lo lp lq rp rq se no ne) (va_runS (As := [.int (pa ((x3 - 42) + x4).toNatClampNeg), .int (pa ((x3 - 6) + x4).toNatClampNeg)]) (rest := [.int x3, .ref (a 6)]) ⟨hx, hb, hml, hown, hts⟩ (c_X5_greater (pa ((x3 - 42) + x4).toNatClampNeg) (pa ((x3 - 6) + x4).toNatClampNeg) hf) (va_cwS 2 hts gX5_findShapes_X5_greater rfl rfl rfl (by decide +kernel) ⟨Nat.le_of_ble_eq_true rfl, Nat.le_of_ble_eq_true rfl⟩) (xPreS hG hP hD hp) rfl rfl hl.1 rfl (lv_room (Nat.le_of_ble_eq_true rfl)) dX5_findShapes_103 ⟨Nat.zero_le _, Nat.zero_le _⟩) hP hD hS hp (fun _ => rfl) (fun r_20 _ H locs hf hP hD hS => ?_)
            have hP : va_P D vwCl (wM k a mm nn we la si it be pa su wo le pp qq ro lo lp lq rp rq se no ne) H := hP
            have hD : va_D A (wM k a mm nn we la si it be pa su wo le pp qq ro lo lp lq rp rq se no ne) := hD
            refine lv_aload_n hx hb dX5_findShapes_106 rfl (lv_at hl 2 rfl) ?_
            refine va_get (D := D) (ci := 5) (C := RX5) (T := TX5) (N := 22) hx hb hts in_X5_findShapes_X5 hown hG.1 hP 0 rfl rfl 2 (by decide) (hts _ lk_X5_findShapes_16) (fun _ h9 => h9) rfl dX5_findShapes_107 ?_
            refine lv_bipush (v := 6) hx hb dX5_findShapes_110 (by decide) ?_
            refine lv_iload_n hx hb dX5_findShapes_112 rfl (lv_at hl 3 rfl) ?_
            refine lv_iconst (v := 1) hx hb dX5_findShapes_113 (by decide) ?_
            refine lv_isub hx hb dX5_findShapes_114 ?_
            refine lv_imul hx hb dX5_findShapes_115 ?_
            refine lv_iload_n hx hb dX5_findShapes_116 rfl (lv_at hl 4 rfl) ?_
            refine lv_iadd hx hb dX5_findShapes_117 ?_
            refine lv_iconst (v := 1) hx hb dX5_findShapes_118 (by decide) ?_
            refine lv_isub hx hb dX5_findShapes_119 ?_
            obtain ⟨h_21, hf⟩ := hf
            refine va_iald hx hb hG.1 hP 1 0 rfl rfl h_21 dX5_findShapes_120 ?_
            refine lv_iadd hx hb dX5_findShapes_121 ?_
            obtain ⟨h_22, hf⟩ := hf
            refine va_iast hx hb hG.1 hP hD hS 6 0 rfl rfl h_22 dX5_findShapes_122 (fun H locs hP hD hS => ?_)
            have hP : va_P D vwCl (wM k a mm nn we la si it be (upd pa (x3.toNatClampNeg) (r_20 + (we (((6 * (x1 - 1)) + x2) - 1).toNatClampNeg))) su wo le pp qq ro lo lp lq rp rq se no ne) H := hP
            have hD : va_D A (wM k a mm nn we la si it be (upd pa (x3.toNatClampNeg) (r_20 + (we (((6 * (x1 - 1)) + x2) - 1).toNatClampNeg))) su wo le pp qq ro lo lp lq rp rq se no ne) := hD
            refine lv_goto (tgt := 214) hx hb dX5_findShapes_123 (by decide) ?_
            exact k_X5_findShapes_214 C0 hG hk2 hk12 ih (upd pa (x3.toNatClampNeg) (r_20 + (we (((6 * (x1 - 1)) + x2) - 1).toNatClampNeg))) x1 x2 x3 x4 _ _ _ hf hP hD hS (lv_sub hl [2, 3, 4, 5, 6] rfl)
        · have hf := hf.1 c_6
          exact k_X5_findShapes_66 C0 hG hk2 hk12 ih pa x1 x2 x3 x4 _ _ _ hf hP hD hS (lv_sub hl [2, 3, 4, 5, 6] rfl)
set_option maxHeartbeats 4000000 in
set_option maxRecDepth 100000 in
theorem k_X5_findShapes_12 {p : Program} {l : Launch} {e : Env} {s : State} {m : MethodId} {args : Array Value} {below : List Frame} {meth : Method} {c : Code} {A : Nat → Prop} {D : va_G} {k : Nat → ClassId} {a : Nat → Nat} {mm : Int32} {nn : Int32} {we : Nat → Int32} {la : Nat → Int32} {si : Nat → Int32} {it : Nat → Int32} {be : Nat → Int32} {su : Nat → Int64} {wo : Nat → Int32} {le : Int32} {pp : Nat → Int32} {qq : Nat → Int32} {ro : Nat → Int32} {lo : Nat → Int32} {lp : Nat → Int32} {lq : Nat → Int32} {rp : Nat → Int32} {rq : Nat → Int32} {se : Nat → Int32} {no : Nat → Int64} {ne : Nat → Int64} (C0 : xM p s m args meth c cX5_findShapes 8 RX5 none wsX5_findShapes) (hG : xG D k s) {post : (Nat → Int32) → Prop} {k2 : (Nat → Int32) → Int32 → Prop} (hk2 : ∀ (pa : Nat → Int32) (x1 : Int32) (H : Heap) (locs : List Loc) (ls : Array Slot), k2 pa x1 → va_P D vwCl (wM k a mm nn we la si it be pa su wo le pp qq ro lo lp lq rp rq se no ne) H → va_D A (wM k a mm nn we la si it be pa su wo le pp qq ro lo lp lq rp rq se no ne) → va_S A s.heap H locs → lv_has ls 8 [(0, .ref (a 0)), (1, .int x1)] → W p l e ({ frames := 1, cells := 0, slots := 0, locals := 21 }) s m args below meth c H locs 0 0 (MQ below (va_Qv (fun (u : (Nat → Int32)) => post u) (fun u t => va_P D vwCl (wM k a mm nn we la si it be u su wo le pp qq ro lo lp lq rp rq se no ne) t.heap) A) args s 0 0 A) (F0 m 2 ls [])) : ∀ (n : Nat) (pa : Nat → Int32) (x1 : Int32) (x2 : Int32) (H : Heap) (locs : List Loc) (ls : Array Slot), p_X5_findShapes_12 mm nn we post k2 n pa x1 x2 → va_P D vwCl (wM k a mm nn we la si it be pa su wo le pp qq ro lo lp lq rp rq se no ne) H → va_D A (wM k a mm nn we la si it be pa su wo le pp qq ro lo lp lq rp rq se no ne) → va_S A s.heap H locs → lv_has ls 8 [(0, .ref (a 0)), (1, .int x1), (2, .int x2)] → W p l e ({ frames := 1, cells := 0, slots := 0, locals := 21 }) s m args below meth c H locs 0 0 (MQ below (va_Qv (fun (u : (Nat → Int32)) => post u) (fun u t => va_P D vwCl (wM k a mm nn we la si it be u su wo le pp qq ro lo lp lq rp rq se no ne) t.heap) A) args s 0 0 A) (F0 m 12 ls []) := by
  obtain ⟨hx, hb, hr, hts, hown, hlocks, hml⟩ := id C0
  intro n
  induction n with
  | zero =>
    intro pa x1 x2 H locs ls hf
    exact False.elim hf
  | succ n ih =>
    intro pa x1 x2 H locs ls hf hP hD hS hl
    unfold p_X5_findShapes_12 at hf
    refine lv_iload_n hx hb dX5_findShapes_12 rfl (lv_at hl 2 rfl) ?_
    refine lv_aload_n hx hb dX5_findShapes_13 rfl (lv_at hl 0 rfl) ?_
    refine va_get (D := D) (ci := 5) (C := RX5) (T := TX5) (N := 22) hx hb hts in_X5_findShapes_X5 hown hG.1 hP 0 rfl rfl 1 (by decide) (hts _ lk_X5_findShapes_13) (fun _ h9 => h9) rfl dX5_findShapes_14 ?_
    refine lv_icmp_gt (tgt := 226) hx hb dX5_findShapes_17 (by decide) (fun c_2 => ?_) (fun c_2 => ?_)
    · have hf := hf.1 c_2
      refine lv_iinc (v := x1 + 1) (lv' := [(1, .int (x1 + 1)), (0, .ref (a 0)), (2, .int x2)]) hx hb dX5_findShapes_226 hl (k := 1) rfl rfl (by decide) rfl (fun ls hl => ?_)
      refine lv_goto (tgt := 2) hx hb dX5_findShapes_229 (by decide) ?_
      exact hk2 pa (x1 + 1) _ _ _ hf hP hD hS (lv_sub hl [1, 0] rfl)
    · have hf := hf.2 c_2
      refine lv_bipush (v := 6) hx hb dX5_findShapes_20 (by decide) ?_
      refine lv_bipush (v := 7) hx hb dX5_findShapes_22 (by decide) ?_
      refine lv_iload_n hx hb dX5_findShapes_24 rfl (lv_at hl 1 rfl) ?_
      refine lv_imul hx hb dX5_findShapes_25 ?_
      refine lv_iload_n hx hb dX5_findShapes_26 rfl (lv_at hl 2 rfl) ?_
      refine lv_iadd hx hb dX5_findShapes_27 ?_
      refine lv_imul hx hb dX5_findShapes_28 ?_
      refine lv_istore_n (lv' := [(3, .int (6 * ((7 * x1) + x2))), (0, .ref (a 0)), (1, .int x1), (2, .int x2)]) hx hb dX5_findShapes_29 rfl hl (by decide) rfl (fun ls hl => ?_)
      refine lv_iconst (v := 0) hx hb dX5_findShapes_30 (by decide) ?_
      refine lv_istore (lv' := [(4, .int 0), (3, .int (6 * ((7 * x1) + x2))), (0, .ref (a 0)), (1, .int x1), (2, .int x2)]) hx hb dX5_findShapes_31 hl (by decide) rfl (fun ls hl => ?_)
      obtain ⟨n_23, hf⟩ := hf
      exact k_X5_findShapes_33 C0 hG hk2 ih n_23 pa x1 x2 (6 * ((7 * x1) + x2)) 0 _ _ _ hf hP hD hS (lv_sub hl [2, 3, 4, 1, 0] rfl)
set_option maxHeartbeats 4000000 in
set_option maxRecDepth 100000 in
theorem k_X5_findShapes_2 {p : Program} {l : Launch} {e : Env} {s : State} {m : MethodId} {args : Array Value} {below : List Frame} {meth : Method} {c : Code} {A : Nat → Prop} {D : va_G} {k : Nat → ClassId} {a : Nat → Nat} {mm : Int32} {nn : Int32} {we : Nat → Int32} {la : Nat → Int32} {si : Nat → Int32} {it : Nat → Int32} {be : Nat → Int32} {su : Nat → Int64} {wo : Nat → Int32} {le : Int32} {pp : Nat → Int32} {qq : Nat → Int32} {ro : Nat → Int32} {lo : Nat → Int32} {lp : Nat → Int32} {lq : Nat → Int32} {rp : Nat → Int32} {rq : Nat → Int32} {se : Nat → Int32} {no : Nat → Int64} {ne : Nat → Int64} (C0 : xM p s m args meth c cX5_findShapes 8 RX5 none wsX5_findShapes) (hG : xG D k s) {post : (Nat → Int32) → Prop} : ∀ (n : Nat) (pa : Nat → Int32) (x1 : Int32) (H : Heap) (locs : List Loc) (ls : Array Slot), p_X5_findShapes_2 mm nn we post n pa x1 → va_P D vwCl (wM k a mm nn we la si it be pa su wo le pp qq ro lo lp lq rp rq se no ne) H → va_D A (wM k a mm nn we la si it be pa su wo le pp qq ro lo lp lq rp rq se no ne) → va_S A s.heap H locs → lv_has ls 8 [(0, .ref (a 0)), (1, .int x1)] → W p l e ({ frames := 1, cells := 0, slots := 0, locals := 21 }) s m args below meth c H locs 0 0 (MQ below (va_Qv (fun (u : (Nat → Int32)) => post u) (fun u t => va_P D vwCl (wM k a mm nn we la si it be u su wo le pp qq ro lo lp lq rp rq se no ne) t.heap) A) args s 0 0 A) (F0 m 2 ls []) := by
  obtain ⟨hx, hb, hr, hts, hown, hlocks, hml⟩ := id C0
  intro n
  induction n with
  | zero =>
    intro pa x1 H locs ls hf
    exact False.elim hf
  | succ n ih =>
    intro pa x1 H locs ls hf hP hD hS hl
    unfold p_X5_findShapes_2 at hf
    refine lv_iload_n hx hb dX5_findShapes_2 rfl (lv_at hl 1 rfl) ?_
    refine lv_aload_n hx hb dX5_findShapes_3 rfl (lv_at hl 0 rfl) ?_
    refine va_get (D := D) (ci := 5) (C := RX5) (T := TX5) (N := 22) hx hb hts in_X5_findShapes_X5 hown hG.1 hP 0 rfl rfl 0 (by decide) (hts _ lk_X5_findShapes_7) (fun _ h9 => h9) rfl dX5_findShapes_4 ?_
    refine lv_icmp_gt (tgt := 232) hx hb dX5_findShapes_7 (by decide) (fun c_1 => ?_) (fun c_1 => ?_)
    · have hf := hf.1 c_1
      exact W.vret hx hb hr (fun t ht hW => ⟨⟨pa, rfl, hf, xHp ht hP⟩, hS.F ht⟩) hS.2.2 dX5_findShapes_232 hlocks
    · have hf := hf.2 c_1
      refine lv_iconst (v := 0) hx hb dX5_findShapes_10 (by decide) ?_
      refine lv_istore_n (lv' := [(2, .int 0), (0, .ref (a 0)), (1, .int x1)]) hx hb dX5_findShapes_11 rfl hl (by decide) rfl (fun ls hl => ?_)
      obtain ⟨n_24, hf⟩ := hf
      exact k_X5_findShapes_12 C0 hG ih n_24 pa x1 0 _ _ _ hf hP hD hS (lv_sub hl [1, 2, 0] rfl)
set_option maxHeartbeats 4000000 in
set_option maxRecDepth 100000 in
theorem c_X5_findShapes {l : Launch} {D : va_G} {k : Nat → ClassId} (a : Nat → Nat) (mm : Int32) (nn : Int32) (we : Nat → Int32) (la : Nat → Int32) (si : Nat → Int32) (it : Nat → Int32) (be : Nat → Int32) (pa : Nat → Int32) (su : Nat → Int64) (wo : Nat → Int32) (le : Int32) (pp : Nat → Int32) (qq : Nat → Int32) (ro : Nat → Int32) (lo : Nat → Int32) (lp : Nat → Int32) (lq : Nat → Int32) (rp : Nat → Int32) (rq : Nat → Int32) (se : Nat → Int32) (no : Nat → Int64) (ne : Nat → Int64) {post : (Nat → Int32) → Prop} (hf : p_X5_findShapes mm nn we pa post) : ctV l yX5_findShapes wsX5_findShapes ({ frames := 1, cells := 0, slots := 0, locals := 21 }) D k [.ref (a 0)] (wM k a mm nn we la si it be pa su wo le pp qq ro lo lp lq rp rq se no ne) (fun u : (Nat → Int32) => wM k a mm nn we la si it be u su wo le pp qq ro lo lp lq rp rq se no ne) (fun (u : (Nat → Int32)) => post u) := by
  refine Met.ofW (cc := cX5_findShapes) (maxL := 8) (ret := none) (by decide) rfl ?_
  intro p e s m args below meth c s₁ B hml hv
  obtain ⟨rfl, hP, hG, hD0⟩ := hv
  have C0 : xM p s m ([.ref (a 0)] : List Value).toArray meth c cX5_findShapes 8 RX5 none wsX5_findShapes := ⟨B.exec, B.bytes, B.returns, atoms_spec (ws := wsX5_findShapes) B.pre, findClass_of_methodNamed B.named, B.notSynchronized, hml⟩
  obtain ⟨hx, hb, hr, hts, hown, hlocks, hml⟩ := id C0
  have hD := xSelf hD0
  have hS : va_S (xIn (wM k a mm nn we la si it be pa su wo le pp qq ro lo lp lq rp rq se no ne)) s.heap s.heap [] := va_S.rf
  generalize xIn (wM k a mm nn we la si it be pa su wo le pp qq ro lo lp lq rp rq se no ne) = A at hD hS ⊢
  have hl := lv_entry ([.ref (a 0)]) (n := 8) (Nat.le_of_ble_eq_true rfl)
  rw [lg_entry_eq]
  generalize (lg_sl ([.ref (a 0)]) ++ List.replicate (8 - (lg_sl ([.ref (a 0)])).length) Slot.unset).toArray = ls at hl ⊢
  have hl : lv_has ls 8 [(0, .ref (a 0))] := hl
  unfold p_X5_findShapes at hf
  refine lv_iconst (v := 0) hx hb dX5_findShapes_0 (by decide) ?_
  refine lv_istore_n (lv' := [(1, .int 0), (0, .ref (a 0))]) hx hb dX5_findShapes_1 rfl hl (by decide) rfl (fun ls hl => ?_)
  obtain ⟨n_25, hf⟩ := hf
  exact k_X5_findShapes_2 C0 hG n_25 pa 0 _ _ _ hf hP hD hS (lv_sub hl [1, 0] rfl)

def p_X5_shape (mm : Int32) (nn : Int32) (we : Nat → Int32) (pa : Nat → Int32) (x1 : Int32) (x2 : Int32) (x3 : Int32) (post : Int32 → (Nat → Int32) → Prop) : Prop := p_X5_in (x1.toInt64) 0 (mm.toInt64) (fun r_1 => ((r_1 = 0 → post (-1) pa) ∧ (¬ r_1 = 0 → p_X5_in (x2.toInt64) 0 (nn.toInt64) (fun r_3 => ((r_3 = 0 → post (-1) pa) ∧ (¬ r_3 = 0 → p_X5_in (x3.toInt64) 0 5 (fun r_5 => ((r_5 = 0 → post (-1) pa) ∧ (¬ r_5 = 0 → p_X5_findShapes mm nn we pa (fun pa_7 => (vp_in ((6 * ((7 * x1) + x2)) + x3) 294 ∧ post (pa_7 ((6 * ((7 * x1) + x2)) + x3).toNatClampNeg) pa_7)))))))))))
theorem in_X5_shape_X5 : ∀ w ∈ u_ws RX5 TX5 22, w ∈ wsX5_shape := by decide +kernel
theorem lk_X5_shape_13 : Cond.fieldLink RX5 13 "GrowingCornersModel" "n" "I" ∈ wsX5_shape := by decide +kernel
theorem lk_X5_shape_32 : Cond.fieldLink RX5 32 "GrowingCornersModel" "parts" "[I" ∈ wsX5_shape := by decide +kernel
theorem lk_X5_shape_7 : Cond.fieldLink RX5 7 "GrowingCornersModel" "m" "I" ∈ wsX5_shape := by decide +kernel
theorem mb_X5_shape_cl101 : Cond.constantLong RX5 101 (5) ∈ wsX5_shape := by decide +kernel
set_option maxHeartbeats 4000000 in
set_option maxRecDepth 100000 in
theorem c_X5_shape {l : Launch} {D : va_G} {k : Nat → ClassId} (a : Nat → Nat) (mm : Int32) (nn : Int32) (we : Nat → Int32) (la : Nat → Int32) (si : Nat → Int32) (it : Nat → Int32) (be : Nat → Int32) (pa : Nat → Int32) (su : Nat → Int64) (wo : Nat → Int32) (le : Int32) (pp : Nat → Int32) (qq : Nat → Int32) (ro : Nat → Int32) (lo : Nat → Int32) (lp : Nat → Int32) (lq : Nat → Int32) (rp : Nat → Int32) (rq : Nat → Int32) (se : Nat → Int32) (no : Nat → Int64) (ne : Nat → Int64) (x1 : Int32) (x2 : Int32) (x3 : Int32) {post : Int32 → (Nat → Int32) → Prop} (hf : p_X5_shape mm nn we pa x1 x2 x3 post) : ctI l yX5_shape wsX5_shape ({ frames := 2, cells := 0, slots := 0, locals := 48 }) D k [.ref (a 0), .int x1, .int x2, .int x3] (wM k a mm nn we la si it be pa su wo le pp qq ro lo lp lq rp rq se no ne) (fun u : (Nat → Int32) => wM k a mm nn we la si it be u su wo le pp qq ro lo lp lq rp rq se no ne) (fun (r : Int32) (u : (Nat → Int32)) => post r u) := by
  refine Met.ofW (cc := cX5_shape) (maxL := 4) (ret := (some .int)) (by decide) rfl ?_
  intro p e s m args below meth c s₁ B hml hv
  obtain ⟨rfl, hP, hG, hD0⟩ := hv
  have C0 : xM p s m ([.ref (a 0), .int x1, .int x2, .int x3] : List Value).toArray meth c cX5_shape 4 RX5 (some .int) wsX5_shape := ⟨B.exec, B.bytes, B.returns, atoms_spec (ws := wsX5_shape) B.pre, findClass_of_methodNamed B.named, B.notSynchronized, hml⟩
  obtain ⟨hx, hb, hr, hts, hown, hlocks, hml⟩ := id C0
  have hD := xSelf hD0
  have hS : va_S (xIn (wM k a mm nn we la si it be pa su wo le pp qq ro lo lp lq rp rq se no ne)) s.heap s.heap [] := va_S.rf
  generalize xIn (wM k a mm nn we la si it be pa su wo le pp qq ro lo lp lq rp rq se no ne) = A at hD hS ⊢
  have hl := lv_entry ([.ref (a 0), .int x1, .int x2, .int x3]) (n := 4) (Nat.le_of_ble_eq_true rfl)
  rw [lg_entry_eq]
  generalize (lg_sl ([.ref (a 0), .int x1, .int x2, .int x3]) ++ List.replicate (4 - (lg_sl ([.ref (a 0), .int x1, .int x2, .int x3])).length) Slot.unset).toArray = ls at hl ⊢
  have hl : lv_has ls 4 [(0, .ref (a 0)), (1, .int x1), (2, .int x2), (3, .int x3)] := hl
  unfold p_X5_shape at hf
  refine lv_iload_n hx hb dX5_shape_0 rfl (lv_at hl 1 rfl) ?_
  refine lv_i2l (v := x1.toInt64) hx hb dX5_shape_1 rfl ?_
  refine lv_lconst (v := 0) hx hb dX5_shape_2 (by decide) ?_
  refine lv_aload_n hx hb dX5_shape_3 rfl (lv_at hl 0 rfl) ?_
  refine va_get (D := D) (ci := 5) (C := RX5) (T := TX5) (N := 22) hx hb hts in_X5_shape_X5 hown hG.1 hP 0 rfl rfl 0 (by decide) (hts _ lk_X5_shape_7) (fun _ h9 => h9) rfl dX5_shape_4 ?_
  refine lv_i2l (v := mm.toInt64) hx hb dX5_shape_7 rfl ?_
  have hp : xPerm (wM k a mm nn we la si it be pa su wo le pp qq ro lo lp lq rp rq se no ne) (([]) ++ (wM k a mm nn we la si it be pa su wo le pp qq ro lo lp lq rp rq se no ne)) := (List.Perm.refl _)
  refine xCallI (w := []) (r := wM k a mm nn we la si it be pa su wo le pp qq ro lo lp lq rp rq se no ne) (va_runS (As := [.long (x1.toInt64), .long 0, .long (mm.toInt64)]) (rest := []) ⟨hx, hb, hml, hown, hts⟩ (c_X5_in (x1.toInt64) 0 (mm.toInt64) hf) (va_cwS 3 hts gX5_shape_X5_in rfl rfl rfl (by decide +kernel) ⟨Nat.le_of_ble_eq_true rfl, Nat.le_of_ble_eq_true rfl⟩) (xPreS hG hP hD hp) rfl rfl hl.1 rfl (lv_room (Nat.le_of_ble_eq_true rfl)) dX5_shape_8 ⟨Nat.zero_le _, Nat.zero_le _⟩) hP hD hS hp (fun _ => rfl) (fun r_1 _ H locs hf hP hD hS => ?_)
  have hP : va_P D vwCl (wM k a mm nn we la si it be pa su wo le pp qq ro lo lp lq rp rq se no ne) H := hP
  have hD : va_D A (wM k a mm nn we la si it be pa su wo le pp qq ro lo lp lq rp rq se no ne) := hD
  refine lv_if_eq (tgt := 40) hx hb dX5_shape_11 (by decide) (fun c_2 => ?_) (fun c_2 => ?_)
  · have hf := hf.1 c_2
    refine lv_iconst (v := (-1)) hx hb dX5_shape_40 (by decide) ?_
    exact W.iret (v := (-1)) hx hb hr (fun t ht hW => ⟨⟨((-1) : Int32), pa, rfl, hf, xHp ht hP⟩, hS.F ht⟩) hS.2.2 dX5_shape_41 hlocks
  · have hf := hf.2 c_2
    refine lv_iload_n hx hb dX5_shape_14 rfl (lv_at hl 2 rfl) ?_
    refine lv_i2l (v := x2.toInt64) hx hb dX5_shape_15 rfl ?_
    refine lv_lconst (v := 0) hx hb dX5_shape_16 (by decide) ?_
    refine lv_aload_n hx hb dX5_shape_17 rfl (lv_at hl 0 rfl) ?_
    refine va_get (D := D) (ci := 5) (C := RX5) (T := TX5) (N := 22) hx hb hts in_X5_shape_X5 hown hG.1 hP 0 rfl rfl 1 (by decide) (hts _ lk_X5_shape_13) (fun _ h9 => h9) rfl dX5_shape_18 ?_
    refine lv_i2l (v := nn.toInt64) hx hb dX5_shape_21 rfl ?_
    have hp : xPerm (wM k a mm nn we la si it be pa su wo le pp qq ro lo lp lq rp rq se no ne) (([]) ++ (wM k a mm nn we la si it be pa su wo le pp qq ro lo lp lq rp rq se no ne)) := (List.Perm.refl _)
    refine xCallI (w := []) (r := wM k a mm nn we la si it be pa su wo le pp qq ro lo lp lq rp rq se no ne) (va_runS (As := [.long (x2.toInt64), .long 0, .long (nn.toInt64)]) (rest := []) ⟨hx, hb, hml, hown, hts⟩ (c_X5_in (x2.toInt64) 0 (nn.toInt64) hf) (va_cwS 3 hts gX5_shape_X5_in rfl rfl rfl (by decide +kernel) ⟨Nat.le_of_ble_eq_true rfl, Nat.le_of_ble_eq_true rfl⟩) (xPreS hG hP hD hp) rfl rfl hl.1 rfl (lv_room (Nat.le_of_ble_eq_true rfl)) dX5_shape_22 ⟨Nat.zero_le _, Nat.zero_le _⟩) hP hD hS hp (fun _ => rfl) (fun r_3 _ H locs hf hP hD hS => ?_)
    have hP : va_P D vwCl (wM k a mm nn we la si it be pa su wo le pp qq ro lo lp lq rp rq se no ne) H := hP
    have hD : va_D A (wM k a mm nn we la si it be pa su wo le pp qq ro lo lp lq rp rq se no ne) := hD
    refine lv_if_eq (tgt := 40) hx hb dX5_shape_25 (by decide) (fun c_4 => ?_) (fun c_4 => ?_)
    · have hf := hf.1 c_4
      refine lv_iconst (v := (-1)) hx hb dX5_shape_40 (by decide) ?_
      exact W.iret (v := (-1)) hx hb hr (fun t ht hW => ⟨⟨((-1) : Int32), pa, rfl, hf, xHp ht hP⟩, hS.F ht⟩) hS.2.2 dX5_shape_41 hlocks
    · have hf := hf.2 c_4
      refine lv_iload_n hx hb dX5_shape_28 rfl (lv_at hl 3 rfl) ?_
      refine lv_i2l (v := x3.toInt64) hx hb dX5_shape_29 rfl ?_
      refine lv_lconst (v := 0) hx hb dX5_shape_30 (by decide) ?_
      refine lv_ldc2 (v := 5) hx hb hown (hts _ mb_X5_shape_cl101) dX5_shape_31 ?_
      have hp : xPerm (wM k a mm nn we la si it be pa su wo le pp qq ro lo lp lq rp rq se no ne) (([]) ++ (wM k a mm nn we la si it be pa su wo le pp qq ro lo lp lq rp rq se no ne)) := (List.Perm.refl _)
      refine xCallI (w := []) (r := wM k a mm nn we la si it be pa su wo le pp qq ro lo lp lq rp rq se no ne) (va_runS (As := [.long (x3.toInt64), .long 0, .long 5]) (rest := []) ⟨hx, hb, hml, hown, hts⟩ (c_X5_in (x3.toInt64) 0 5 hf) (va_cwS 3 hts gX5_shape_X5_in rfl rfl rfl (by decide +kernel) ⟨Nat.le_of_ble_eq_true rfl, Nat.le_of_ble_eq_true rfl⟩) (xPreS hG hP hD hp) rfl rfl hl.1 rfl (lv_room (Nat.le_of_ble_eq_true rfl)) dX5_shape_34 ⟨Nat.zero_le _, Nat.zero_le _⟩) hP hD hS hp (fun _ => rfl) (fun r_5 _ H locs hf hP hD hS => ?_)
      have hP : va_P D vwCl (wM k a mm nn we la si it be pa su wo le pp qq ro lo lp lq rp rq se no ne) H := hP
      have hD : va_D A (wM k a mm nn we la si it be pa su wo le pp qq ro lo lp lq rp rq se no ne) := hD
      refine lv_if_ne (tgt := 42) hx hb dX5_shape_37 (by decide) (fun c_6 => ?_) (fun c_6 => ?_)
      · have hf := hf.2 c_6
        refine lv_aload_n hx hb dX5_shape_42 rfl (lv_at hl 0 rfl) ?_
        have hp : xPerm (wM k a mm nn we la si it be pa su wo le pp qq ro lo lp lq rp rq se no ne) ((wM k a mm nn we la si it be pa su wo le pp qq ro lo lp lq rp rq se no ne) ++ ([])) := xPermNil
        refine xCallV (w := wM k a mm nn we la si it be pa su wo le pp qq ro lo lp lq rp rq se no ne) (r := []) (va_runV (As := []) (rest := []) ⟨hx, hb, hml, hown, hts⟩ (c_X5_findShapes a mm nn we la si it be pa su wo le pp qq ro lo lp lq rp rq se no ne hf) (cwV 0 hts gX5_shape_X5_findShapes rfl rfl rfl (by decide +kernel) ⟨Nat.le_of_ble_eq_true rfl, Nat.le_of_ble_eq_true rfl⟩) (xPreV hG hP hD hp (ci := 5) rfl (i := 0) rfl) rfl rfl hl.1 rfl (lv_room (Nat.le_of_ble_eq_true rfl)) dX5_shape_43 ⟨Nat.zero_le _, Nat.zero_le _⟩) hP hD hS hp (fun _ => rfl) (fun pa_7 H locs hf hP hD hS => ?_)
        have hP : va_P D vwCl (wM k a mm nn we la si it be pa_7 su wo le pp qq ro lo lp lq rp rq se no ne) H := xNilP hP
        have hD : va_D A (wM k a mm nn we la si it be pa_7 su wo le pp qq ro lo lp lq rp rq se no ne) := xNilD hD
        refine lv_aload_n hx hb dX5_shape_46 rfl (lv_at hl 0 rfl) ?_
        refine va_get (D := D) (ci := 5) (C := RX5) (T := TX5) (N := 22) hx hb hts in_X5_shape_X5 hown hG.1 hP 0 rfl rfl 7 (by decide) (hts _ lk_X5_shape_32) (fun _ h9 => h9) rfl dX5_shape_47 ?_
        refine lv_bipush (v := 6) hx hb dX5_shape_50 (by decide) ?_
        refine lv_bipush (v := 7) hx hb dX5_shape_52 (by decide) ?_
        refine lv_iload_n hx hb dX5_shape_54 rfl (lv_at hl 1 rfl) ?_
        refine lv_imul hx hb dX5_shape_55 ?_
        refine lv_iload_n hx hb dX5_shape_56 rfl (lv_at hl 2 rfl) ?_
        refine lv_iadd hx hb dX5_shape_57 ?_
        refine lv_imul hx hb dX5_shape_58 ?_
        refine lv_iload_n hx hb dX5_shape_59 rfl (lv_at hl 3 rfl) ?_
        refine lv_iadd hx hb dX5_shape_60 ?_
        obtain ⟨h_8, hf⟩ := hf
        refine va_iald hx hb hG.1 hP 6 0 rfl rfl h_8 dX5_shape_61 ?_
        exact W.iret (v := (pa_7 ((6 * ((7 * x1) + x2)) + x3).toNatClampNeg)) hx hb hr (fun t ht hW => ⟨⟨(pa_7 ((6 * ((7 * x1) + x2)) + x3).toNatClampNeg), pa_7, rfl, hf, xHp ht hP⟩, hS.F ht⟩) hS.2.2 dX5_shape_62 hlocks
      · have hf := hf.1 c_6
        refine lv_iconst (v := (-1)) hx hb dX5_shape_40 (by decide) ?_
        exact W.iret (v := (-1)) hx hb hr (fun t ht hW => ⟨⟨((-1) : Int32), pa, rfl, hf, xHp ht hP⟩, hS.F ht⟩) hS.2.2 dX5_shape_41 hlocks

def p_X5_ways_22 (mm : Int32) (nn : Int32) (we : Nat → Int32) (x1 : Int32) (post : Int32 → (Nat → Int32) → Prop) : Nat → (Nat → Int32) → Int32 → Int32 → Prop
  | 0, _, _, _ => False
  | n + 1, pa, x2, x3 => ((x1 ≤ x3 → post x2 pa) ∧ (¬ x1 ≤ x3 → (vp_in ((6 * ((7 * mm) + nn)) + x3) 294 ∧ p_X5_ways_22 mm nn we x1 post n pa (x2 + (pa ((6 * ((7 * mm) + nn)) + x3).toNatClampNeg)) (x3 + 1))))
def p_X5_ways (mm : Int32) (nn : Int32) (we : Nat → Int32) (pa : Nat → Int32) (x1 : Int32) (post : Int32 → (Nat → Int32) → Prop) : Prop := p_X5_in (x1.toInt64) 1 6 (fun r_1 => ((r_1 = 0 → post (-1) pa) ∧ (¬ r_1 = 0 → p_X5_findShapes mm nn we pa (fun pa_3 => (∃ n_6, p_X5_ways_22 mm nn we x1 post n_6 pa_3 0 0)))))
theorem in_X5_ways_X5 : ∀ w ∈ u_ws RX5 TX5 22, w ∈ wsX5_ways := by decide +kernel
theorem lk_X5_ways_13 : Cond.fieldLink RX5 13 "GrowingCornersModel" "n" "I" ∈ wsX5_ways := by decide +kernel
theorem lk_X5_ways_32 : Cond.fieldLink RX5 32 "GrowingCornersModel" "parts" "[I" ∈ wsX5_ways := by decide +kernel
theorem lk_X5_ways_7 : Cond.fieldLink RX5 7 "GrowingCornersModel" "m" "I" ∈ wsX5_ways := by decide +kernel
theorem mb_X5_ways_cl80 : Cond.constantLong RX5 80 (6) ∈ wsX5_ways := by decide +kernel
set_option maxHeartbeats 4000000 in
set_option maxRecDepth 100000 in
theorem k_X5_ways_22 {p : Program} {l : Launch} {e : Env} {s : State} {m : MethodId} {args : Array Value} {below : List Frame} {meth : Method} {c : Code} {A : Nat → Prop} {D : va_G} {k : Nat → ClassId} {a : Nat → Nat} {mm : Int32} {nn : Int32} {we : Nat → Int32} {la : Nat → Int32} {si : Nat → Int32} {it : Nat → Int32} {be : Nat → Int32} {su : Nat → Int64} {wo : Nat → Int32} {le : Int32} {pp : Nat → Int32} {qq : Nat → Int32} {ro : Nat → Int32} {lo : Nat → Int32} {lp : Nat → Int32} {lq : Nat → Int32} {rp : Nat → Int32} {rq : Nat → Int32} {se : Nat → Int32} {no : Nat → Int64} {ne : Nat → Int64} {x1 : Int32} (C0 : xM p s m args meth c cX5_ways 4 RX5 (some .int) wsX5_ways) (hG : xG D k s) {post : Int32 → (Nat → Int32) → Prop} : ∀ (n : Nat) (pa : Nat → Int32) (x2 : Int32) (x3 : Int32) (H : Heap) (locs : List Loc) (ls : Array Slot), p_X5_ways_22 mm nn we x1 post n pa x2 x3 → va_P D vwCl (wM k a mm nn we la si it be pa su wo le pp qq ro lo lp lq rp rq se no ne) H → va_D A (wM k a mm nn we la si it be pa su wo le pp qq ro lo lp lq rp rq se no ne) → va_S A s.heap H locs → lv_has ls 4 [(0, .ref (a 0)), (1, .int x1), (2, .int x2), (3, .int x3)] → W p l e ({ frames := 2, cells := 0, slots := 0, locals := 48 }) s m args below meth c H locs 0 0 (MQ below (va_Qi (fun (r : Int32) (u : (Nat → Int32)) => post r u) (fun u t => va_P D vwCl (wM k a mm nn we la si it be u su wo le pp qq ro lo lp lq rp rq se no ne) t.heap) A) args s 0 0 A) (F0 m 22 ls []) := by
  obtain ⟨hx, hb, hr, hts, hown, hlocks, hml⟩ := id C0
  intro n
  induction n with
  | zero =>
    intro pa x2 x3 H locs ls hf
    exact False.elim hf
  | succ n ih =>
    intro pa x2 x3 H locs ls hf hP hD hS hl
    unfold p_X5_ways_22 at hf
    refine lv_iload_n hx hb dX5_ways_22 rfl (lv_at hl 3 rfl) ?_
    refine lv_iload_n hx hb dX5_ways_23 rfl (lv_at hl 1 rfl) ?_
    refine lv_icmp_ge (tgt := 58) hx hb dX5_ways_24 (by decide) (fun c_4 => ?_) (fun c_4 => ?_)
    · have hf := hf.1 c_4
      refine lv_iload_n hx hb dX5_ways_58 rfl (lv_at hl 2 rfl) ?_
      exact W.iret (v := x2) hx hb hr (fun t ht hW => ⟨⟨x2, pa, rfl, hf, xHp ht hP⟩, hS.F ht⟩) hS.2.2 dX5_ways_59 hlocks
    · have hf := hf.2 c_4
      refine lv_iload_n hx hb dX5_ways_27 rfl (lv_at hl 2 rfl) ?_
      refine lv_aload_n hx hb dX5_ways_28 rfl (lv_at hl 0 rfl) ?_
      refine va_get (D := D) (ci := 5) (C := RX5) (T := TX5) (N := 22) hx hb hts in_X5_ways_X5 hown hG.1 hP 0 rfl rfl 7 (by decide) (hts _ lk_X5_ways_32) (fun _ h9 => h9) rfl dX5_ways_29 ?_
      refine lv_bipush (v := 6) hx hb dX5_ways_32 (by decide) ?_
      refine lv_bipush (v := 7) hx hb dX5_ways_34 (by decide) ?_
      refine lv_aload_n hx hb dX5_ways_36 rfl (lv_at hl 0 rfl) ?_
      refine va_get (D := D) (ci := 5) (C := RX5) (T := TX5) (N := 22) hx hb hts in_X5_ways_X5 hown hG.1 hP 0 rfl rfl 0 (by decide) (hts _ lk_X5_ways_7) (fun _ h9 => h9) rfl dX5_ways_37 ?_
      refine lv_imul hx hb dX5_ways_40 ?_
      refine lv_aload_n hx hb dX5_ways_41 rfl (lv_at hl 0 rfl) ?_
      refine va_get (D := D) (ci := 5) (C := RX5) (T := TX5) (N := 22) hx hb hts in_X5_ways_X5 hown hG.1 hP 0 rfl rfl 1 (by decide) (hts _ lk_X5_ways_13) (fun _ h9 => h9) rfl dX5_ways_42 ?_
      refine lv_iadd hx hb dX5_ways_45 ?_
      refine lv_imul hx hb dX5_ways_46 ?_
      refine lv_iload_n hx hb dX5_ways_47 rfl (lv_at hl 3 rfl) ?_
      refine lv_iadd hx hb dX5_ways_48 ?_
      obtain ⟨h_5, hf⟩ := hf
      refine va_iald hx hb hG.1 hP 6 0 rfl rfl h_5 dX5_ways_49 ?_
      refine lv_iadd hx hb dX5_ways_50 ?_
      refine lv_istore_n (lv' := [(2, .int (x2 + (pa ((6 * ((7 * mm) + nn)) + x3).toNatClampNeg))), (0, .ref (a 0)), (1, .int x1), (3, .int x3)]) hx hb dX5_ways_51 rfl hl (by decide) rfl (fun ls hl => ?_)
      refine lv_iinc (v := x3 + 1) (lv' := [(3, .int (x3 + 1)), (2, .int (x2 + (pa ((6 * ((7 * mm) + nn)) + x3).toNatClampNeg))), (0, .ref (a 0)), (1, .int x1)]) hx hb dX5_ways_52 hl (k := 3) rfl rfl (by decide) rfl (fun ls hl => ?_)
      refine lv_goto (tgt := 22) hx hb dX5_ways_55 (by decide) ?_
      exact ih pa (x2 + (pa ((6 * ((7 * mm) + nn)) + x3).toNatClampNeg)) (x3 + 1) _ _ _ hf hP hD hS (lv_sub hl [2, 3, 1, 0] rfl)
set_option maxHeartbeats 4000000 in
set_option maxRecDepth 100000 in
theorem c_X5_ways {l : Launch} {D : va_G} {k : Nat → ClassId} (a : Nat → Nat) (mm : Int32) (nn : Int32) (we : Nat → Int32) (la : Nat → Int32) (si : Nat → Int32) (it : Nat → Int32) (be : Nat → Int32) (pa : Nat → Int32) (su : Nat → Int64) (wo : Nat → Int32) (le : Int32) (pp : Nat → Int32) (qq : Nat → Int32) (ro : Nat → Int32) (lo : Nat → Int32) (lp : Nat → Int32) (lq : Nat → Int32) (rp : Nat → Int32) (rq : Nat → Int32) (se : Nat → Int32) (no : Nat → Int64) (ne : Nat → Int64) (x1 : Int32) {post : Int32 → (Nat → Int32) → Prop} (hf : p_X5_ways mm nn we pa x1 post) : ctI l yX5_ways wsX5_ways ({ frames := 2, cells := 0, slots := 0, locals := 48 }) D k [.ref (a 0), .int x1] (wM k a mm nn we la si it be pa su wo le pp qq ro lo lp lq rp rq se no ne) (fun u : (Nat → Int32) => wM k a mm nn we la si it be u su wo le pp qq ro lo lp lq rp rq se no ne) (fun (r : Int32) (u : (Nat → Int32)) => post r u) := by
  refine Met.ofW (cc := cX5_ways) (maxL := 4) (ret := (some .int)) (by decide) rfl ?_
  intro p e s m args below meth c s₁ B hml hv
  obtain ⟨rfl, hP, hG, hD0⟩ := hv
  have C0 : xM p s m ([.ref (a 0), .int x1] : List Value).toArray meth c cX5_ways 4 RX5 (some .int) wsX5_ways := ⟨B.exec, B.bytes, B.returns, atoms_spec (ws := wsX5_ways) B.pre, findClass_of_methodNamed B.named, B.notSynchronized, hml⟩
  obtain ⟨hx, hb, hr, hts, hown, hlocks, hml⟩ := id C0
  have hD := xSelf hD0
  have hS : va_S (xIn (wM k a mm nn we la si it be pa su wo le pp qq ro lo lp lq rp rq se no ne)) s.heap s.heap [] := va_S.rf
  generalize xIn (wM k a mm nn we la si it be pa su wo le pp qq ro lo lp lq rp rq se no ne) = A at hD hS ⊢
  have hl := lv_entry ([.ref (a 0), .int x1]) (n := 4) (Nat.le_of_ble_eq_true rfl)
  rw [lg_entry_eq]
  generalize (lg_sl ([.ref (a 0), .int x1]) ++ List.replicate (4 - (lg_sl ([.ref (a 0), .int x1])).length) Slot.unset).toArray = ls at hl ⊢
  have hl : lv_has ls 4 [(0, .ref (a 0)), (1, .int x1)] := hl
  unfold p_X5_ways at hf
  refine lv_iload_n hx hb dX5_ways_0 rfl (lv_at hl 1 rfl) ?_
  refine lv_i2l (v := x1.toInt64) hx hb dX5_ways_1 rfl ?_
  refine lv_lconst (v := 1) hx hb dX5_ways_2 (by decide) ?_
  refine lv_ldc2 (v := 6) hx hb hown (hts _ mb_X5_ways_cl80) dX5_ways_3 ?_
  have hp : xPerm (wM k a mm nn we la si it be pa su wo le pp qq ro lo lp lq rp rq se no ne) (([]) ++ (wM k a mm nn we la si it be pa su wo le pp qq ro lo lp lq rp rq se no ne)) := (List.Perm.refl _)
  refine xCallI (w := []) (r := wM k a mm nn we la si it be pa su wo le pp qq ro lo lp lq rp rq se no ne) (va_runS (As := [.long (x1.toInt64), .long 1, .long 6]) (rest := []) ⟨hx, hb, hml, hown, hts⟩ (c_X5_in (x1.toInt64) 1 6 hf) (va_cwS 3 hts gX5_ways_X5_in rfl rfl rfl (by decide +kernel) ⟨Nat.le_of_ble_eq_true rfl, Nat.le_of_ble_eq_true rfl⟩) (xPreS hG hP hD hp) rfl rfl hl.1 rfl (lv_room (Nat.le_of_ble_eq_true rfl)) dX5_ways_6 ⟨Nat.zero_le _, Nat.zero_le _⟩) hP hD hS hp (fun _ => rfl) (fun r_1 _ H locs hf hP hD hS => ?_)
  have hP : va_P D vwCl (wM k a mm nn we la si it be pa su wo le pp qq ro lo lp lq rp rq se no ne) H := hP
  have hD : va_D A (wM k a mm nn we la si it be pa su wo le pp qq ro lo lp lq rp rq se no ne) := hD
  refine lv_if_ne (tgt := 14) hx hb dX5_ways_9 (by decide) (fun c_2 => ?_) (fun c_2 => ?_)
  · have hf := hf.2 c_2
    refine lv_aload_n hx hb dX5_ways_14 rfl (lv_at hl 0 rfl) ?_
    have hp : xPerm (wM k a mm nn we la si it be pa su wo le pp qq ro lo lp lq rp rq se no ne) ((wM k a mm nn we la si it be pa su wo le pp qq ro lo lp lq rp rq se no ne) ++ ([])) := xPermNil
    refine xCallV (w := wM k a mm nn we la si it be pa su wo le pp qq ro lo lp lq rp rq se no ne) (r := []) (va_runV (As := []) (rest := []) ⟨hx, hb, hml, hown, hts⟩ (c_X5_findShapes a mm nn we la si it be pa su wo le pp qq ro lo lp lq rp rq se no ne hf) (cwV 0 hts gX5_ways_X5_findShapes rfl rfl rfl (by decide +kernel) ⟨Nat.le_of_ble_eq_true rfl, Nat.le_of_ble_eq_true rfl⟩) (xPreV hG hP hD hp (ci := 5) rfl (i := 0) rfl) rfl rfl hl.1 rfl (lv_room (Nat.le_of_ble_eq_true rfl)) dX5_ways_15 ⟨Nat.zero_le _, Nat.zero_le _⟩) hP hD hS hp (fun _ => rfl) (fun pa_3 H locs hf hP hD hS => ?_)
    have hP : va_P D vwCl (wM k a mm nn we la si it be pa_3 su wo le pp qq ro lo lp lq rp rq se no ne) H := xNilP hP
    have hD : va_D A (wM k a mm nn we la si it be pa_3 su wo le pp qq ro lo lp lq rp rq se no ne) := xNilD hD
    refine lv_iconst (v := 0) hx hb dX5_ways_18 (by decide) ?_
    refine lv_istore_n (lv' := [(2, .int 0), (0, .ref (a 0)), (1, .int x1)]) hx hb dX5_ways_19 rfl hl (by decide) rfl (fun ls hl => ?_)
    refine lv_iconst (v := 0) hx hb dX5_ways_20 (by decide) ?_
    refine lv_istore_n (lv' := [(3, .int 0), (2, .int 0), (0, .ref (a 0)), (1, .int x1)]) hx hb dX5_ways_21 rfl hl (by decide) rfl (fun ls hl => ?_)
    obtain ⟨n_6, hf⟩ := hf
    exact k_X5_ways_22 C0 hG n_6 pa_3 0 0 _ _ _ hf hP hD hS (lv_sub hl [2, 3, 1, 0] rfl)
  · have hf := hf.1 c_2
    refine lv_iconst (v := (-1)) hx hb dX5_ways_12 (by decide) ?_
    exact W.iret (v := (-1)) hx hb hr (fun t ht hW => ⟨⟨((-1) : Int32), pa, rfl, hf, xHp ht hP⟩, hS.F ht⟩) hS.2.2 dX5_ways_13 hlocks

def p_X5_sums_97 (mm : Int32) (nn : Int32) (we : Nat → Int32) (x1 : Int32) (x2 : Int32) (post : Int64 → (Nat → Int64) → Prop) (k15 : (Nat → Int64) → Int32 → Prop) (k23 : (Nat → Int64) → Int32 → Int32 → Prop) (su : Nat → Int64) (x3 : Int32) (x4 : Int32) (s0 : Int64) (s1 : Int64) : Prop := (vp_in ((6 * x3) + x4) 36 ∧ (vp_in ((6 * x3) + x4) 36 ∧ k23 (vp_updL su (((6 * x3) + x4).toNatClampNeg) ((s1 + s0) * ((we ((6 * x3) + x4).toNatClampNeg).toInt64))) x3 (x4 + 1)))
def p_X5_sums_69 (mm : Int32) (nn : Int32) (we : Nat → Int32) (x1 : Int32) (x2 : Int32) (post : Int64 → (Nat → Int64) → Prop) (k15 : (Nat → Int64) → Int32 → Prop) (k23 : (Nat → Int64) → Int32 → Int32 → Prop) (su : Nat → Int64) (x3 : Int32) (x4 : Int32) (s0 : Int64) (s1 : Int64) : Prop := ((x4 ≤ 0 → p_X5_sums_97 mm nn we x1 x2 post k15 k23 su x3 x4 0 (s1 + s0)) ∧ (¬ x4 ≤ 0 → (vp_in (((6 * x3) + x4) - 1) 36 ∧ p_X5_sums_97 mm nn we x1 x2 post k15 k23 su x3 x4 (su (((6 * x3) + x4) - 1).toNatClampNeg) (s1 + s0))))
def p_X5_sums_43 (mm : Int32) (nn : Int32) (we : Nat → Int32) (x1 : Int32) (x2 : Int32) (post : Int64 → (Nat → Int64) → Prop) (k15 : (Nat → Int64) → Int32 → Prop) (k23 : (Nat → Int64) → Int32 → Int32 → Prop) (su : Nat → Int64) (x3 : Int32) (x4 : Int32) (s0 : Int64) : Prop := ((x3 ≤ 0 → p_X5_sums_69 mm nn we x1 x2 post k15 k23 su x3 x4 0 s0) ∧ (¬ x3 ≤ 0 → (vp_in ((6 * (x3 - 1)) + x4) 36 ∧ p_X5_sums_69 mm nn we x1 x2 post k15 k23 su x3 x4 (su ((6 * (x3 - 1)) + x4).toNatClampNeg) s0)))
def p_X5_sums_42 (mm : Int32) (nn : Int32) (we : Nat → Int32) (x1 : Int32) (x2 : Int32) (post : Int64 → (Nat → Int64) → Prop) (k15 : (Nat → Int64) → Int32 → Prop) (k23 : (Nat → Int64) → Int32 → Int32 → Prop) (su : Nat → Int64) (x3 : Int32) (x4 : Int32) : Prop := p_X5_sums_43 mm nn we x1 x2 post k15 k23 su x3 x4 0
def p_X5_sums_23 (mm : Int32) (nn : Int32) (we : Nat → Int32) (x1 : Int32) (x2 : Int32) (post : Int64 → (Nat → Int64) → Prop) (k15 : (Nat → Int64) → Int32 → Prop) : Nat → (Nat → Int64) → Int32 → Int32 → Prop
  | 0, _, _, _ => False
  | n + 1, su, x3, x4 => ((x2 < x4 → k15 su (x3 + 1)) ∧ (¬ x2 < x4 → ((x3 = 0 → ((x4 = 0 → p_X5_sums_43 mm nn we x1 x2 post k15 (fun su x3 x4 => p_X5_sums_23 mm nn we x1 x2 post k15 n su x3 x4) su x3 x4 1) ∧ (¬ x4 = 0 → p_X5_sums_42 mm nn we x1 x2 post k15 (fun su x3 x4 => p_X5_sums_23 mm nn we x1 x2 post k15 n su x3 x4) su x3 x4))) ∧ (¬ x3 = 0 → p_X5_sums_42 mm nn we x1 x2 post k15 (fun su x3 x4 => p_X5_sums_23 mm nn we x1 x2 post k15 n su x3 x4) su x3 x4))))
def p_X5_sums_15 (mm : Int32) (nn : Int32) (we : Nat → Int32) (x1 : Int32) (x2 : Int32) (post : Int64 → (Nat → Int64) → Prop) : Nat → (Nat → Int64) → Int32 → Prop
  | 0, _, _ => False
  | n + 1, su, x3 => ((x1 < x3 → (vp_in ((6 * x1) + x2) 36 ∧ post (su ((6 * x1) + x2).toNatClampNeg) su)) ∧ (¬ x1 < x3 → (∃ n_14, p_X5_sums_23 mm nn we x1 x2 post (fun su x3 => p_X5_sums_15 mm nn we x1 x2 post n su x3) n_14 su x3 0)))
def p_X5_sums (mm : Int32) (nn : Int32) (we : Nat → Int32) (su : Nat → Int64) (x1 : Int32) (x2 : Int32) (post : Int64 → (Nat → Int64) → Prop) : Prop := p_X5_isPlace mm nn x1 x2 (fun r_1 => ((r_1 = 0 → post (-1) su) ∧ (¬ r_1 = 0 → (∃ n_15, p_X5_sums_15 mm nn we x1 x2 post n_15 su 0))))
theorem in_X5_sums_X5 : ∀ w ∈ u_ws RX5 TX5 22, w ∈ wsX5_sums := by decide +kernel
theorem lk_X5_sums_16 : Cond.fieldLink RX5 16 "GrowingCornersModel" "weights" "[I" ∈ wsX5_sums := by decide +kernel
theorem lk_X5_sums_35 : Cond.fieldLink RX5 35 "GrowingCornersModel" "sums" "[J" ∈ wsX5_sums := by decide +kernel
theorem mb_X5_sums_cl106 : Cond.constantLong RX5 106 (-1) ∈ wsX5_sums := by decide +kernel
set_option maxHeartbeats 4000000 in
set_option maxRecDepth 100000 in
theorem k_X5_sums_97 {p : Program} {l : Launch} {e : Env} {s : State} {m : MethodId} {args : Array Value} {below : List Frame} {meth : Method} {c : Code} {A : Nat → Prop} {D : va_G} {k : Nat → ClassId} {a : Nat → Nat} {mm : Int32} {nn : Int32} {we : Nat → Int32} {la : Nat → Int32} {si : Nat → Int32} {it : Nat → Int32} {be : Nat → Int32} {pa : Nat → Int32} {wo : Nat → Int32} {le : Int32} {pp : Nat → Int32} {qq : Nat → Int32} {ro : Nat → Int32} {lo : Nat → Int32} {lp : Nat → Int32} {lq : Nat → Int32} {rp : Nat → Int32} {rq : Nat → Int32} {se : Nat → Int32} {no : Nat → Int64} {ne : Nat → Int64} {x1 : Int32} {x2 : Int32} (C0 : xM p s m args meth c cX5_sums 7 RX5 (some .long) wsX5_sums) (hG : xG D k s) {post : Int64 → (Nat → Int64) → Prop} {k15 : (Nat → Int64) → Int32 → Prop} (hk15 : ∀ (su : Nat → Int64) (x3 : Int32) (H : Heap) (locs : List Loc) (ls : Array Slot), k15 su x3 → va_P D vwCl (wM k a mm nn we la si it be pa su wo le pp qq ro lo lp lq rp rq se no ne) H → va_D A (wM k a mm nn we la si it be pa su wo le pp qq ro lo lp lq rp rq se no ne) → va_S A s.heap H locs → lv_has ls 7 [(0, .ref (a 0)), (1, .int x1), (2, .int x2), (3, .int x3)] → W p l e ({ frames := 2, cells := 0, slots := 0, locals := 47 }) s m args below meth c H locs 0 0 (MQ below (va_Ql (fun (r : Int64) (u : (Nat → Int64)) => post r u) (fun u t => va_P D vwCl (wM k a mm nn we la si it be pa u wo le pp qq ro lo lp lq rp rq se no ne) t.heap) A) args s 0 0 A) (F0 m 15 ls [])) {k23 : (Nat → Int64) → Int32 → Int32 → Prop} (hk23 : ∀ (su : Nat → Int64) (x3 : Int32) (x4 : Int32) (H : Heap) (locs : List Loc) (ls : Array Slot), k23 su x3 x4 → va_P D vwCl (wM k a mm nn we la si it be pa su wo le pp qq ro lo lp lq rp rq se no ne) H → va_D A (wM k a mm nn we la si it be pa su wo le pp qq ro lo lp lq rp rq se no ne) → va_S A s.heap H locs → lv_has ls 7 [(0, .ref (a 0)), (1, .int x1), (2, .int x2), (3, .int x3), (4, .int x4)] → W p l e ({ frames := 2, cells := 0, slots := 0, locals := 47 }) s m args below meth c H locs 0 0 (MQ below (va_Ql (fun (r : Int64) (u : (Nat → Int64)) => post r u) (fun u t => va_P D vwCl (wM k a mm nn we la si it be pa u wo le pp qq ro lo lp lq rp rq se no ne) t.heap) A) args s 0 0 A) (F0 m 23 ls [])) : ∀ (su : Nat → Int64) (x3 : Int32) (x4 : Int32) (s0 : Int64) (s1 : Int64) (H : Heap) (locs : List Loc) (ls : Array Slot), p_X5_sums_97 mm nn we x1 x2 post k15 k23 su x3 x4 s0 s1 → va_P D vwCl (wM k a mm nn we la si it be pa su wo le pp qq ro lo lp lq rp rq se no ne) H → va_D A (wM k a mm nn we la si it be pa su wo le pp qq ro lo lp lq rp rq se no ne) → va_S A s.heap H locs → lv_has ls 7 [(0, .ref (a 0)), (1, .int x1), (2, .int x2), (3, .int x3), (4, .int x4)] → W p l e ({ frames := 2, cells := 0, slots := 0, locals := 47 }) s m args below meth c H locs 0 0 (MQ below (va_Ql (fun (r : Int64) (u : (Nat → Int64)) => post r u) (fun u t => va_P D vwCl (wM k a mm nn we la si it be pa u wo le pp qq ro lo lp lq rp rq se no ne) t.heap) A) args s 0 0 A) (F0 m 97 ls [.long s0, .long s1]) := by
  obtain ⟨hx, hb, hr, hts, hown, hlocks, hml⟩ := id C0
  intro su x3 x4 s0 s1 H locs ls hf hP hD hS hl
  unfold p_X5_sums_97 at hf
  refine lv_ladd hx hb dX5_sums_97 ?_
  refine lv_lstore (lv' := [(5, .long (s1 + s0)), (0, .ref (a 0)), (1, .int x1), (2, .int x2), (3, .int x3), (4, .int x4)]) hx hb dX5_sums_98 hl (by decide) rfl (fun ls hl => ?_)
  refine lv_aload_n hx hb dX5_sums_100 rfl (lv_at hl 1 rfl) ?_
  refine va_get (D := D) (ci := 5) (C := RX5) (T := TX5) (N := 22) hx hb hts in_X5_sums_X5 hown hG.1 hP 0 rfl rfl 8 (by decide) (hts _ lk_X5_sums_35) (fun _ h9 => h9) rfl dX5_sums_101 ?_
  refine lv_bipush (v := 6) hx hb dX5_sums_104 (by decide) ?_
  refine lv_iload_n hx hb dX5_sums_106 rfl (lv_at hl 4 rfl) ?_
  refine lv_imul hx hb dX5_sums_107 ?_
  refine lv_iload hx hb dX5_sums_108 (lv_at hl 5 rfl) ?_
  refine lv_iadd hx hb dX5_sums_110 ?_
  refine lv_lload hx hb dX5_sums_111 (lv_at hl 0 rfl) ?_
  refine lv_aload_n hx hb dX5_sums_113 rfl (lv_at hl 1 rfl) ?_
  refine va_get (D := D) (ci := 5) (C := RX5) (T := TX5) (N := 22) hx hb hts in_X5_sums_X5 hown hG.1 hP 0 rfl rfl 2 (by decide) (hts _ lk_X5_sums_16) (fun _ h9 => h9) rfl dX5_sums_114 ?_
  refine lv_bipush (v := 6) hx hb dX5_sums_117 (by decide) ?_
  refine lv_iload_n hx hb dX5_sums_119 rfl (lv_at hl 4 rfl) ?_
  refine lv_imul hx hb dX5_sums_120 ?_
  refine lv_iload hx hb dX5_sums_121 (lv_at hl 5 rfl) ?_
  refine lv_iadd hx hb dX5_sums_123 ?_
  obtain ⟨h_9, hf⟩ := hf
  refine va_iald hx hb hG.1 hP 1 0 rfl rfl h_9 dX5_sums_124 ?_
  refine lv_i2l (v := (we ((6 * x3) + x4).toNatClampNeg).toInt64) hx hb dX5_sums_125 rfl ?_
  refine lv_lmul hx hb dX5_sums_126 ?_
  obtain ⟨h_10, hf⟩ := hf
  refine va_last hx hb hG.1 hP hD hS 7 1 rfl rfl h_10 dX5_sums_127 (fun H locs hP hD hS => ?_)
  have hP : va_P D vwCl (wM k a mm nn we la si it be pa (vp_updL su (((6 * x3) + x4).toNatClampNeg) ((s1 + s0) * ((we ((6 * x3) + x4).toNatClampNeg).toInt64))) wo le pp qq ro lo lp lq rp rq se no ne) H := hP
  have hD : va_D A (wM k a mm nn we la si it be pa (vp_updL su (((6 * x3) + x4).toNatClampNeg) ((s1 + s0) * ((we ((6 * x3) + x4).toNatClampNeg).toInt64))) wo le pp qq ro lo lp lq rp rq se no ne) := hD
  refine lv_iinc (v := x4 + 1) (lv' := [(4, .int (x4 + 1)), (5, .long (s1 + s0)), (0, .ref (a 0)), (1, .int x1), (2, .int x2), (3, .int x3)]) hx hb dX5_sums_128 hl (k := 5) rfl rfl (by decide) rfl (fun ls hl => ?_)
  refine lv_goto (tgt := 23) hx hb dX5_sums_131 (by decide) ?_
  exact hk23 (vp_updL su (((6 * x3) + x4).toNatClampNeg) ((s1 + s0) * ((we ((6 * x3) + x4).toNatClampNeg).toInt64))) x3 (x4 + 1) _ _ _ hf hP hD hS (lv_sub hl [2, 3, 4, 5, 0] rfl)
set_option maxHeartbeats 4000000 in
set_option maxRecDepth 100000 in
theorem k_X5_sums_69 {p : Program} {l : Launch} {e : Env} {s : State} {m : MethodId} {args : Array Value} {below : List Frame} {meth : Method} {c : Code} {A : Nat → Prop} {D : va_G} {k : Nat → ClassId} {a : Nat → Nat} {mm : Int32} {nn : Int32} {we : Nat → Int32} {la : Nat → Int32} {si : Nat → Int32} {it : Nat → Int32} {be : Nat → Int32} {pa : Nat → Int32} {wo : Nat → Int32} {le : Int32} {pp : Nat → Int32} {qq : Nat → Int32} {ro : Nat → Int32} {lo : Nat → Int32} {lp : Nat → Int32} {lq : Nat → Int32} {rp : Nat → Int32} {rq : Nat → Int32} {se : Nat → Int32} {no : Nat → Int64} {ne : Nat → Int64} {x1 : Int32} {x2 : Int32} (C0 : xM p s m args meth c cX5_sums 7 RX5 (some .long) wsX5_sums) (hG : xG D k s) {post : Int64 → (Nat → Int64) → Prop} {k15 : (Nat → Int64) → Int32 → Prop} (hk15 : ∀ (su : Nat → Int64) (x3 : Int32) (H : Heap) (locs : List Loc) (ls : Array Slot), k15 su x3 → va_P D vwCl (wM k a mm nn we la si it be pa su wo le pp qq ro lo lp lq rp rq se no ne) H → va_D A (wM k a mm nn we la si it be pa su wo le pp qq ro lo lp lq rp rq se no ne) → va_S A s.heap H locs → lv_has ls 7 [(0, .ref (a 0)), (1, .int x1), (2, .int x2), (3, .int x3)] → W p l e ({ frames := 2, cells := 0, slots := 0, locals := 47 }) s m args below meth c H locs 0 0 (MQ below (va_Ql (fun (r : Int64) (u : (Nat → Int64)) => post r u) (fun u t => va_P D vwCl (wM k a mm nn we la si it be pa u wo le pp qq ro lo lp lq rp rq se no ne) t.heap) A) args s 0 0 A) (F0 m 15 ls [])) {k23 : (Nat → Int64) → Int32 → Int32 → Prop} (hk23 : ∀ (su : Nat → Int64) (x3 : Int32) (x4 : Int32) (H : Heap) (locs : List Loc) (ls : Array Slot), k23 su x3 x4 → va_P D vwCl (wM k a mm nn we la si it be pa su wo le pp qq ro lo lp lq rp rq se no ne) H → va_D A (wM k a mm nn we la si it be pa su wo le pp qq ro lo lp lq rp rq se no ne) → va_S A s.heap H locs → lv_has ls 7 [(0, .ref (a 0)), (1, .int x1), (2, .int x2), (3, .int x3), (4, .int x4)] → W p l e ({ frames := 2, cells := 0, slots := 0, locals := 47 }) s m args below meth c H locs 0 0 (MQ below (va_Ql (fun (r : Int64) (u : (Nat → Int64)) => post r u) (fun u t => va_P D vwCl (wM k a mm nn we la si it be pa u wo le pp qq ro lo lp lq rp rq se no ne) t.heap) A) args s 0 0 A) (F0 m 23 ls [])) : ∀ (su : Nat → Int64) (x3 : Int32) (x4 : Int32) (s0 : Int64) (s1 : Int64) (H : Heap) (locs : List Loc) (ls : Array Slot), p_X5_sums_69 mm nn we x1 x2 post k15 k23 su x3 x4 s0 s1 → va_P D vwCl (wM k a mm nn we la si it be pa su wo le pp qq ro lo lp lq rp rq se no ne) H → va_D A (wM k a mm nn we la si it be pa su wo le pp qq ro lo lp lq rp rq se no ne) → va_S A s.heap H locs → lv_has ls 7 [(0, .ref (a 0)), (1, .int x1), (2, .int x2), (3, .int x3), (4, .int x4)] → W p l e ({ frames := 2, cells := 0, slots := 0, locals := 47 }) s m args below meth c H locs 0 0 (MQ below (va_Ql (fun (r : Int64) (u : (Nat → Int64)) => post r u) (fun u t => va_P D vwCl (wM k a mm nn we la si it be pa u wo le pp qq ro lo lp lq rp rq se no ne) t.heap) A) args s 0 0 A) (F0 m 69 ls [.long s0, .long s1]) := by
  obtain ⟨hx, hb, hr, hts, hown, hlocks, hml⟩ := id C0
  intro su x3 x4 s0 s1 H locs ls hf hP hD hS hl
  unfold p_X5_sums_69 at hf
  refine lv_ladd hx hb dX5_sums_69 ?_
  refine lv_lstore (lv' := [(5, .long (s1 + s0)), (0, .ref (a 0)), (1, .int x1), (2, .int x2), (3, .int x3), (4, .int x4)]) hx hb dX5_sums_70 hl (by decide) rfl (fun ls hl => ?_)
  refine lv_lload hx hb dX5_sums_72 (lv_at hl 0 rfl) ?_
  refine lv_iload hx hb dX5_sums_74 (lv_at hl 5 rfl) ?_
  refine lv_if_le (tgt := 96) hx hb dX5_sums_76 (by decide) (fun c_8 => ?_) (fun c_8 => ?_)
  · have hf := hf.1 c_8
    refine lv_lconst (v := 0) hx hb dX5_sums_96 (by decide) ?_
    exact k_X5_sums_97 C0 hG hk15 hk23 su x3 x4 0 (s1 + s0) _ _ _ hf hP hD hS (lv_sub hl [1, 2, 3, 4, 5] rfl)
  · have hf := hf.2 c_8
    refine lv_aload_n hx hb dX5_sums_79 rfl (lv_at hl 1 rfl) ?_
    refine va_get (D := D) (ci := 5) (C := RX5) (T := TX5) (N := 22) hx hb hts in_X5_sums_X5 hown hG.1 hP 0 rfl rfl 8 (by decide) (hts _ lk_X5_sums_35) (fun _ h9 => h9) rfl dX5_sums_80 ?_
    refine lv_bipush (v := 6) hx hb dX5_sums_83 (by decide) ?_
    refine lv_iload_n hx hb dX5_sums_85 rfl (lv_at hl 4 rfl) ?_
    refine lv_imul hx hb dX5_sums_86 ?_
    refine lv_iload hx hb dX5_sums_87 (lv_at hl 5 rfl) ?_
    refine lv_iadd hx hb dX5_sums_89 ?_
    refine lv_iconst (v := 1) hx hb dX5_sums_90 (by decide) ?_
    refine lv_isub hx hb dX5_sums_91 ?_
    obtain ⟨h_11, hf⟩ := hf
    refine va_lald hx hb hG.1 hP 7 1 rfl rfl h_11 dX5_sums_92 ?_
    refine lv_goto (tgt := 97) hx hb dX5_sums_93 (by decide) ?_
    exact k_X5_sums_97 C0 hG hk15 hk23 su x3 x4 (su (((6 * x3) + x4) - 1).toNatClampNeg) (s1 + s0) _ _ _ hf hP hD hS (lv_sub hl [1, 2, 3, 4, 5] rfl)
set_option maxHeartbeats 4000000 in
set_option maxRecDepth 100000 in
theorem k_X5_sums_43 {p : Program} {l : Launch} {e : Env} {s : State} {m : MethodId} {args : Array Value} {below : List Frame} {meth : Method} {c : Code} {A : Nat → Prop} {D : va_G} {k : Nat → ClassId} {a : Nat → Nat} {mm : Int32} {nn : Int32} {we : Nat → Int32} {la : Nat → Int32} {si : Nat → Int32} {it : Nat → Int32} {be : Nat → Int32} {pa : Nat → Int32} {wo : Nat → Int32} {le : Int32} {pp : Nat → Int32} {qq : Nat → Int32} {ro : Nat → Int32} {lo : Nat → Int32} {lp : Nat → Int32} {lq : Nat → Int32} {rp : Nat → Int32} {rq : Nat → Int32} {se : Nat → Int32} {no : Nat → Int64} {ne : Nat → Int64} {x1 : Int32} {x2 : Int32} (C0 : xM p s m args meth c cX5_sums 7 RX5 (some .long) wsX5_sums) (hG : xG D k s) {post : Int64 → (Nat → Int64) → Prop} {k15 : (Nat → Int64) → Int32 → Prop} (hk15 : ∀ (su : Nat → Int64) (x3 : Int32) (H : Heap) (locs : List Loc) (ls : Array Slot), k15 su x3 → va_P D vwCl (wM k a mm nn we la si it be pa su wo le pp qq ro lo lp lq rp rq se no ne) H → va_D A (wM k a mm nn we la si it be pa su wo le pp qq ro lo lp lq rp rq se no ne) → va_S A s.heap H locs → lv_has ls 7 [(0, .ref (a 0)), (1, .int x1), (2, .int x2), (3, .int x3)] → W p l e ({ frames := 2, cells := 0, slots := 0, locals := 47 }) s m args below meth c H locs 0 0 (MQ below (va_Ql (fun (r : Int64) (u : (Nat → Int64)) => post r u) (fun u t => va_P D vwCl (wM k a mm nn we la si it be pa u wo le pp qq ro lo lp lq rp rq se no ne) t.heap) A) args s 0 0 A) (F0 m 15 ls [])) {k23 : (Nat → Int64) → Int32 → Int32 → Prop} (hk23 : ∀ (su : Nat → Int64) (x3 : Int32) (x4 : Int32) (H : Heap) (locs : List Loc) (ls : Array Slot), k23 su x3 x4 → va_P D vwCl (wM k a mm nn we la si it be pa su wo le pp qq ro lo lp lq rp rq se no ne) H → va_D A (wM k a mm nn we la si it be pa su wo le pp qq ro lo lp lq rp rq se no ne) → va_S A s.heap H locs → lv_has ls 7 [(0, .ref (a 0)), (1, .int x1), (2, .int x2), (3, .int x3), (4, .int x4)] → W p l e ({ frames := 2, cells := 0, slots := 0, locals := 47 }) s m args below meth c H locs 0 0 (MQ below (va_Ql (fun (r : Int64) (u : (Nat → Int64)) => post r u) (fun u t => va_P D vwCl (wM k a mm nn we la si it be pa u wo le pp qq ro lo lp lq rp rq se no ne) t.heap) A) args s 0 0 A) (F0 m 23 ls [])) : ∀ (su : Nat → Int64) (x3 : Int32) (x4 : Int32) (s0 : Int64) (H : Heap) (locs : List Loc) (ls : Array Slot), p_X5_sums_43 mm nn we x1 x2 post k15 k23 su x3 x4 s0 → va_P D vwCl (wM k a mm nn we la si it be pa su wo le pp qq ro lo lp lq rp rq se no ne) H → va_D A (wM k a mm nn we la si it be pa su wo le pp qq ro lo lp lq rp rq se no ne) → va_S A s.heap H locs → lv_has ls 7 [(0, .ref (a 0)), (1, .int x1), (2, .int x2), (3, .int x3), (4, .int x4)] → W p l e ({ frames := 2, cells := 0, slots := 0, locals := 47 }) s m args below meth c H locs 0 0 (MQ below (va_Ql (fun (r : Int64) (u : (Nat → Int64)) => post r u) (fun u t => va_P D vwCl (wM k a mm nn we la si it be pa u wo le pp qq ro lo lp lq rp rq se no ne) t.heap) A) args s 0 0 A) (F0 m 43 ls [.long s0]) := by
  obtain ⟨hx, hb, hr, hts, hown, hlocks, hml⟩ := id C0
  intro su x3 x4 s0 H locs ls hf hP hD hS hl
  unfold p_X5_sums_43 at hf
  refine lv_lstore (lv' := [(5, .long s0), (0, .ref (a 0)), (1, .int x1), (2, .int x2), (3, .int x3), (4, .int x4)]) hx hb dX5_sums_43 hl (by decide) rfl (fun ls hl => ?_)
  refine lv_lload hx hb dX5_sums_45 (lv_at hl 0 rfl) ?_
  refine lv_iload_n hx hb dX5_sums_47 rfl (lv_at hl 4 rfl) ?_
  refine lv_if_le (tgt := 68) hx hb dX5_sums_48 (by decide) (fun c_7 => ?_) (fun c_7 => ?_)
  · have hf := hf.1 c_7
    refine lv_lconst (v := 0) hx hb dX5_sums_68 (by decide) ?_
    exact k_X5_sums_69 C0 hG hk15 hk23 su x3 x4 0 s0 _ _ _ hf hP hD hS (lv_sub hl [1, 2, 3, 4, 5] rfl)
  · have hf := hf.2 c_7
    refine lv_aload_n hx hb dX5_sums_51 rfl (lv_at hl 1 rfl) ?_
    refine va_get (D := D) (ci := 5) (C := RX5) (T := TX5) (N := 22) hx hb hts in_X5_sums_X5 hown hG.1 hP 0 rfl rfl 8 (by decide) (hts _ lk_X5_sums_35) (fun _ h9 => h9) rfl dX5_sums_52 ?_
    refine lv_bipush (v := 6) hx hb dX5_sums_55 (by decide) ?_
    refine lv_iload_n hx hb dX5_sums_57 rfl (lv_at hl 4 rfl) ?_
    refine lv_iconst (v := 1) hx hb dX5_sums_58 (by decide) ?_
    refine lv_isub hx hb dX5_sums_59 ?_
    refine lv_imul hx hb dX5_sums_60 ?_
    refine lv_iload hx hb dX5_sums_61 (lv_at hl 5 rfl) ?_
    refine lv_iadd hx hb dX5_sums_63 ?_
    obtain ⟨h_12, hf⟩ := hf
    refine va_lald hx hb hG.1 hP 7 1 rfl rfl h_12 dX5_sums_64 ?_
    refine lv_goto (tgt := 69) hx hb dX5_sums_65 (by decide) ?_
    exact k_X5_sums_69 C0 hG hk15 hk23 su x3 x4 (su ((6 * (x3 - 1)) + x4).toNatClampNeg) s0 _ _ _ hf hP hD hS (lv_sub hl [1, 2, 3, 4, 5] rfl)
set_option maxHeartbeats 4000000 in
set_option maxRecDepth 100000 in
theorem k_X5_sums_42 {p : Program} {l : Launch} {e : Env} {s : State} {m : MethodId} {args : Array Value} {below : List Frame} {meth : Method} {c : Code} {A : Nat → Prop} {D : va_G} {k : Nat → ClassId} {a : Nat → Nat} {mm : Int32} {nn : Int32} {we : Nat → Int32} {la : Nat → Int32} {si : Nat → Int32} {it : Nat → Int32} {be : Nat → Int32} {pa : Nat → Int32} {wo : Nat → Int32} {le : Int32} {pp : Nat → Int32} {qq : Nat → Int32} {ro : Nat → Int32} {lo : Nat → Int32} {lp : Nat → Int32} {lq : Nat → Int32} {rp : Nat → Int32} {rq : Nat → Int32} {se : Nat → Int32} {no : Nat → Int64} {ne : Nat → Int64} {x1 : Int32} {x2 : Int32} (C0 : xM p s m args meth c cX5_sums 7 RX5 (some .long) wsX5_sums) (hG : xG D k s) {post : Int64 → (Nat → Int64) → Prop} {k15 : (Nat → Int64) → Int32 → Prop} (hk15 : ∀ (su : Nat → Int64) (x3 : Int32) (H : Heap) (locs : List Loc) (ls : Array Slot), k15 su x3 → va_P D vwCl (wM k a mm nn we la si it be pa su wo le pp qq ro lo lp lq rp rq se no ne) H → va_D A (wM k a mm nn we la si it be pa su wo le pp qq ro lo lp lq rp rq se no ne) → va_S A s.heap H locs → lv_has ls 7 [(0, .ref (a 0)), (1, .int x1), (2, .int x2), (3, .int x3)] → W p l e ({ frames := 2, cells := 0, slots := 0, locals := 47 }) s m args below meth c H locs 0 0 (MQ below (va_Ql (fun (r : Int64) (u : (Nat → Int64)) => post r u) (fun u t => va_P D vwCl (wM k a mm nn we la si it be pa u wo le pp qq ro lo lp lq rp rq se no ne) t.heap) A) args s 0 0 A) (F0 m 15 ls [])) {k23 : (Nat → Int64) → Int32 → Int32 → Prop} (hk23 : ∀ (su : Nat → Int64) (x3 : Int32) (x4 : Int32) (H : Heap) (locs : List Loc) (ls : Array Slot), k23 su x3 x4 → va_P D vwCl (wM k a mm nn we la si it be pa su wo le pp qq ro lo lp lq rp rq se no ne) H → va_D A (wM k a mm nn we la si it be pa su wo le pp qq ro lo lp lq rp rq se no ne) → va_S A s.heap H locs → lv_has ls 7 [(0, .ref (a 0)), (1, .int x1), (2, .int x2), (3, .int x3), (4, .int x4)] → W p l e ({ frames := 2, cells := 0, slots := 0, locals := 47 }) s m args below meth c H locs 0 0 (MQ below (va_Ql (fun (r : Int64) (u : (Nat → Int64)) => post r u) (fun u t => va_P D vwCl (wM k a mm nn we la si it be pa u wo le pp qq ro lo lp lq rp rq se no ne) t.heap) A) args s 0 0 A) (F0 m 23 ls [])) : ∀ (su : Nat → Int64) (x3 : Int32) (x4 : Int32) (H : Heap) (locs : List Loc) (ls : Array Slot), p_X5_sums_42 mm nn we x1 x2 post k15 k23 su x3 x4 → va_P D vwCl (wM k a mm nn we la si it be pa su wo le pp qq ro lo lp lq rp rq se no ne) H → va_D A (wM k a mm nn we la si it be pa su wo le pp qq ro lo lp lq rp rq se no ne) → va_S A s.heap H locs → lv_has ls 7 [(0, .ref (a 0)), (1, .int x1), (2, .int x2), (3, .int x3), (4, .int x4)] → W p l e ({ frames := 2, cells := 0, slots := 0, locals := 47 }) s m args below meth c H locs 0 0 (MQ below (va_Ql (fun (r : Int64) (u : (Nat → Int64)) => post r u) (fun u t => va_P D vwCl (wM k a mm nn we la si it be pa u wo le pp qq ro lo lp lq rp rq se no ne) t.heap) A) args s 0 0 A) (F0 m 42 ls []) := by
  obtain ⟨hx, hb, hr, hts, hown, hlocks, hml⟩ := id C0
  intro su x3 x4 H locs ls hf hP hD hS hl
  unfold p_X5_sums_42 at hf
  refine lv_lconst (v := 0) hx hb dX5_sums_42 (by decide) ?_
  exact k_X5_sums_43 C0 hG hk15 hk23 su x3 x4 0 _ _ _ hf hP hD hS (lv_sub hl [0, 1, 2, 3, 4] rfl)
set_option maxHeartbeats 4000000 in
set_option maxRecDepth 100000 in
theorem k_X5_sums_23 {p : Program} {l : Launch} {e : Env} {s : State} {m : MethodId} {args : Array Value} {below : List Frame} {meth : Method} {c : Code} {A : Nat → Prop} {D : va_G} {k : Nat → ClassId} {a : Nat → Nat} {mm : Int32} {nn : Int32} {we : Nat → Int32} {la : Nat → Int32} {si : Nat → Int32} {it : Nat → Int32} {be : Nat → Int32} {pa : Nat → Int32} {wo : Nat → Int32} {le : Int32} {pp : Nat → Int32} {qq : Nat → Int32} {ro : Nat → Int32} {lo : Nat → Int32} {lp : Nat → Int32} {lq : Nat → Int32} {rp : Nat → Int32} {rq : Nat → Int32} {se : Nat → Int32} {no : Nat → Int64} {ne : Nat → Int64} {x1 : Int32} {x2 : Int32} (C0 : xM p s m args meth c cX5_sums 7 RX5 (some .long) wsX5_sums) (hG : xG D k s) {post : Int64 → (Nat → Int64) → Prop} {k15 : (Nat → Int64) → Int32 → Prop} (hk15 : ∀ (su : Nat → Int64) (x3 : Int32) (H : Heap) (locs : List Loc) (ls : Array Slot), k15 su x3 → va_P D vwCl (wM k a mm nn we la si it be pa su wo le pp qq ro lo lp lq rp rq se no ne) H → va_D A (wM k a mm nn we la si it be pa su wo le pp qq ro lo lp lq rp rq se no ne) → va_S A s.heap H locs → lv_has ls 7 [(0, .ref (a 0)), (1, .int x1), (2, .int x2), (3, .int x3)] → W p l e ({ frames := 2, cells := 0, slots := 0, locals := 47 }) s m args below meth c H locs 0 0 (MQ below (va_Ql (fun (r : Int64) (u : (Nat → Int64)) => post r u) (fun u t => va_P D vwCl (wM k a mm nn we la si it be pa u wo le pp qq ro lo lp lq rp rq se no ne) t.heap) A) args s 0 0 A) (F0 m 15 ls [])) : ∀ (n : Nat) (su : Nat → Int64) (x3 : Int32) (x4 : Int32) (H : Heap) (locs : List Loc) (ls : Array Slot), p_X5_sums_23 mm nn we x1 x2 post k15 n su x3 x4 → va_P D vwCl (wM k a mm nn we la si it be pa su wo le pp qq ro lo lp lq rp rq se no ne) H → va_D A (wM k a mm nn we la si it be pa su wo le pp qq ro lo lp lq rp rq se no ne) → va_S A s.heap H locs → lv_has ls 7 [(0, .ref (a 0)), (1, .int x1), (2, .int x2), (3, .int x3), (4, .int x4)] → W p l e ({ frames := 2, cells := 0, slots := 0, locals := 47 }) s m args below meth c H locs 0 0 (MQ below (va_Ql (fun (r : Int64) (u : (Nat → Int64)) => post r u) (fun u t => va_P D vwCl (wM k a mm nn we la si it be pa u wo le pp qq ro lo lp lq rp rq se no ne) t.heap) A) args s 0 0 A) (F0 m 23 ls []) := by
  obtain ⟨hx, hb, hr, hts, hown, hlocks, hml⟩ := id C0
  intro n
  induction n with
  | zero =>
    intro su x3 x4 H locs ls hf
    exact False.elim hf
  | succ n ih =>
    intro su x3 x4 H locs ls hf hP hD hS hl
    unfold p_X5_sums_23 at hf
    refine lv_iload hx hb dX5_sums_23 (lv_at hl 4 rfl) ?_
    refine lv_iload_n hx hb dX5_sums_25 rfl (lv_at hl 2 rfl) ?_
    refine lv_icmp_gt (tgt := 134) hx hb dX5_sums_26 (by decide) (fun c_5 => ?_) (fun c_5 => ?_)
    · have hf := hf.1 c_5
      refine lv_iinc (v := x3 + 1) (lv' := [(3, .int (x3 + 1)), (0, .ref (a 0)), (1, .int x1), (2, .int x2), (4, .int x4)]) hx hb dX5_sums_134 hl (k := 3) rfl rfl (by decide) rfl (fun ls hl => ?_)
      refine lv_goto (tgt := 15) hx hb dX5_sums_137 (by decide) ?_
      exact hk15 su (x3 + 1) _ _ _ hf hP hD hS (lv_sub hl [1, 2, 3, 0] rfl)
    · have hf := hf.2 c_5
      refine lv_iload_n hx hb dX5_sums_29 rfl (lv_at hl 3 rfl) ?_
      refine lv_if_ne (tgt := 42) hx hb dX5_sums_30 (by decide) (fun c_6 => ?_) (fun c_6 => ?_)
      · have hf := hf.2 c_6
        exact k_X5_sums_42 C0 hG hk15 ih su x3 x4 _ _ _ hf hP hD hS (lv_sub hl [0, 1, 2, 3, 4] rfl)
      · have hf := hf.1 c_6
        refine lv_iload hx hb dX5_sums_33 (lv_at hl 4 rfl) ?_
        refine lv_if_ne (tgt := 42) hx hb dX5_sums_35 (by decide) (fun c_13 => ?_) (fun c_13 => ?_)
        · have hf := hf.2 c_13
          exact k_X5_sums_42 C0 hG hk15 ih su x3 x4 _ _ _ hf hP hD hS (lv_sub hl [0, 1, 2, 3, 4] rfl)
        · have hf := hf.1 c_13
          refine lv_lconst (v := 1) hx hb dX5_sums_38 (by decide) ?_
          refine lv_goto (tgt := 43) hx hb dX5_sums_39 (by decide) ?_
          exact k_X5_sums_43 C0 hG hk15 ih su x3 x4 1 _ _ _ hf hP hD hS (lv_sub hl [0, 1, 2, 3, 4] rfl)
set_option maxHeartbeats 4000000 in
set_option maxRecDepth 100000 in
theorem k_X5_sums_15 {p : Program} {l : Launch} {e : Env} {s : State} {m : MethodId} {args : Array Value} {below : List Frame} {meth : Method} {c : Code} {A : Nat → Prop} {D : va_G} {k : Nat → ClassId} {a : Nat → Nat} {mm : Int32} {nn : Int32} {we : Nat → Int32} {la : Nat → Int32} {si : Nat → Int32} {it : Nat → Int32} {be : Nat → Int32} {pa : Nat → Int32} {wo : Nat → Int32} {le : Int32} {pp : Nat → Int32} {qq : Nat → Int32} {ro : Nat → Int32} {lo : Nat → Int32} {lp : Nat → Int32} {lq : Nat → Int32} {rp : Nat → Int32} {rq : Nat → Int32} {se : Nat → Int32} {no : Nat → Int64} {ne : Nat → Int64} {x1 : Int32} {x2 : Int32} (C0 : xM p s m args meth c cX5_sums 7 RX5 (some .long) wsX5_sums) (hG : xG D k s) {post : Int64 → (Nat → Int64) → Prop} : ∀ (n : Nat) (su : Nat → Int64) (x3 : Int32) (H : Heap) (locs : List Loc) (ls : Array Slot), p_X5_sums_15 mm nn we x1 x2 post n su x3 → va_P D vwCl (wM k a mm nn we la si it be pa su wo le pp qq ro lo lp lq rp rq se no ne) H → va_D A (wM k a mm nn we la si it be pa su wo le pp qq ro lo lp lq rp rq se no ne) → va_S A s.heap H locs → lv_has ls 7 [(0, .ref (a 0)), (1, .int x1), (2, .int x2), (3, .int x3)] → W p l e ({ frames := 2, cells := 0, slots := 0, locals := 47 }) s m args below meth c H locs 0 0 (MQ below (va_Ql (fun (r : Int64) (u : (Nat → Int64)) => post r u) (fun u t => va_P D vwCl (wM k a mm nn we la si it be pa u wo le pp qq ro lo lp lq rp rq se no ne) t.heap) A) args s 0 0 A) (F0 m 15 ls []) := by
  obtain ⟨hx, hb, hr, hts, hown, hlocks, hml⟩ := id C0
  intro n
  induction n with
  | zero =>
    intro su x3 H locs ls hf
    exact False.elim hf
  | succ n ih =>
    intro su x3 H locs ls hf hP hD hS hl
    unfold p_X5_sums_15 at hf
    refine lv_iload_n hx hb dX5_sums_15 rfl (lv_at hl 3 rfl) ?_
    refine lv_iload_n hx hb dX5_sums_16 rfl (lv_at hl 1 rfl) ?_
    refine lv_icmp_gt (tgt := 140) hx hb dX5_sums_17 (by decide) (fun c_3 => ?_) (fun c_3 => ?_)
    · have hf := hf.1 c_3
      refine lv_aload_n hx hb dX5_sums_140 rfl (lv_at hl 0 rfl) ?_
      refine va_get (D := D) (ci := 5) (C := RX5) (T := TX5) (N := 22) hx hb hts in_X5_sums_X5 hown hG.1 hP 0 rfl rfl 8 (by decide) (hts _ lk_X5_sums_35) (fun _ h9 => h9) rfl dX5_sums_141 ?_
      refine lv_bipush (v := 6) hx hb dX5_sums_144 (by decide) ?_
      refine lv_iload_n hx hb dX5_sums_146 rfl (lv_at hl 1 rfl) ?_
      refine lv_imul hx hb dX5_sums_147 ?_
      refine lv_iload_n hx hb dX5_sums_148 rfl (lv_at hl 2 rfl) ?_
      refine lv_iadd hx hb dX5_sums_149 ?_
      obtain ⟨h_4, hf⟩ := hf
      refine va_lald hx hb hG.1 hP 7 1 rfl rfl h_4 dX5_sums_150 ?_
      exact W.lret (v := (su ((6 * x1) + x2).toNatClampNeg)) hx hb hr (fun t ht hW => ⟨⟨(su ((6 * x1) + x2).toNatClampNeg), su, rfl, hf, xHp ht hP⟩, hS.F ht⟩) hS.2.2 dX5_sums_151 hlocks
    · have hf := hf.2 c_3
      refine lv_iconst (v := 0) hx hb dX5_sums_20 (by decide) ?_
      refine lv_istore (lv' := [(4, .int 0), (0, .ref (a 0)), (1, .int x1), (2, .int x2), (3, .int x3)]) hx hb dX5_sums_21 hl (by decide) rfl (fun ls hl => ?_)
      obtain ⟨n_14, hf⟩ := hf
      exact k_X5_sums_23 C0 hG ih n_14 su x3 0 _ _ _ hf hP hD hS (lv_sub hl [1, 2, 3, 4, 0] rfl)
set_option maxHeartbeats 4000000 in
set_option maxRecDepth 100000 in
theorem c_X5_sums {l : Launch} {D : va_G} {k : Nat → ClassId} (a : Nat → Nat) (mm : Int32) (nn : Int32) (we : Nat → Int32) (la : Nat → Int32) (si : Nat → Int32) (it : Nat → Int32) (be : Nat → Int32) (pa : Nat → Int32) (su : Nat → Int64) (wo : Nat → Int32) (le : Int32) (pp : Nat → Int32) (qq : Nat → Int32) (ro : Nat → Int32) (lo : Nat → Int32) (lp : Nat → Int32) (lq : Nat → Int32) (rp : Nat → Int32) (rq : Nat → Int32) (se : Nat → Int32) (no : Nat → Int64) (ne : Nat → Int64) (x1 : Int32) (x2 : Int32) {post : Int64 → (Nat → Int64) → Prop} (hf : p_X5_sums mm nn we su x1 x2 post) : ctL l yX5_sums wsX5_sums ({ frames := 2, cells := 0, slots := 0, locals := 47 }) D k [.ref (a 0), .int x1, .int x2] (wM k a mm nn we la si it be pa su wo le pp qq ro lo lp lq rp rq se no ne) (fun u : (Nat → Int64) => wM k a mm nn we la si it be pa u wo le pp qq ro lo lp lq rp rq se no ne) (fun (r : Int64) (u : (Nat → Int64)) => post r u) := by
  refine Met.ofW (cc := cX5_sums) (maxL := 7) (ret := (some .long)) (by decide) rfl ?_
  intro p e s m args below meth c s₁ B hml hv
  obtain ⟨rfl, hP, hG, hD0⟩ := hv
  have C0 : xM p s m ([.ref (a 0), .int x1, .int x2] : List Value).toArray meth c cX5_sums 7 RX5 (some .long) wsX5_sums := ⟨B.exec, B.bytes, B.returns, atoms_spec (ws := wsX5_sums) B.pre, findClass_of_methodNamed B.named, B.notSynchronized, hml⟩
  obtain ⟨hx, hb, hr, hts, hown, hlocks, hml⟩ := id C0
  have hD := xSelf hD0
  have hS : va_S (xIn (wM k a mm nn we la si it be pa su wo le pp qq ro lo lp lq rp rq se no ne)) s.heap s.heap [] := va_S.rf
  generalize xIn (wM k a mm nn we la si it be pa su wo le pp qq ro lo lp lq rp rq se no ne) = A at hD hS ⊢
  have hl := lv_entry ([.ref (a 0), .int x1, .int x2]) (n := 7) (Nat.le_of_ble_eq_true rfl)
  rw [lg_entry_eq]
  generalize (lg_sl ([.ref (a 0), .int x1, .int x2]) ++ List.replicate (7 - (lg_sl ([.ref (a 0), .int x1, .int x2])).length) Slot.unset).toArray = ls at hl ⊢
  have hl : lv_has ls 7 [(0, .ref (a 0)), (1, .int x1), (2, .int x2)] := hl
  unfold p_X5_sums at hf
  refine lv_aload_n hx hb dX5_sums_0 rfl (lv_at hl 0 rfl) ?_
  refine lv_iload_n hx hb dX5_sums_1 rfl (lv_at hl 1 rfl) ?_
  refine lv_iload_n hx hb dX5_sums_2 rfl (lv_at hl 2 rfl) ?_
  have hp : xPerm (wM k a mm nn we la si it be pa su wo le pp qq ro lo lp lq rp rq se no ne) ((wM k a mm nn we la si it be pa su wo le pp qq ro lo lp lq rp rq se no ne) ++ ([])) := xPermNil
  refine xCallI (w := wM k a mm nn we la si it be pa su wo le pp qq ro lo lp lq rp rq se no ne) (r := []) (va_runV (As := [.int x1, .int x2]) (rest := []) ⟨hx, hb, hml, hown, hts⟩ (c_X5_isPlace a mm nn we la si it be pa su wo le pp qq ro lo lp lq rp rq se no ne x1 x2 hf) (cwV 2 hts gX5_sums_X5_isPlace rfl rfl rfl (by decide +kernel) ⟨Nat.le_of_ble_eq_true rfl, Nat.le_of_ble_eq_true rfl⟩) (xPreV hG hP hD hp (ci := 5) rfl (i := 0) rfl) rfl rfl hl.1 rfl (lv_room (Nat.le_of_ble_eq_true rfl)) dX5_sums_3 ⟨Nat.zero_le _, Nat.zero_le _⟩) hP hD hS hp (fun _ => rfl) (fun r_1 _ H locs hf hP hD hS => ?_)
  have hP : va_P D vwCl (wM k a mm nn we la si it be pa su wo le pp qq ro lo lp lq rp rq se no ne) H := xNilP hP
  have hD : va_D A (wM k a mm nn we la si it be pa su wo le pp qq ro lo lp lq rp rq se no ne) := xNilD hD
  refine lv_if_ne (tgt := 13) hx hb dX5_sums_6 (by decide) (fun c_2 => ?_) (fun c_2 => ?_)
  · have hf := hf.2 c_2
    refine lv_iconst (v := 0) hx hb dX5_sums_13 (by decide) ?_
    refine lv_istore_n (lv' := [(3, .int 0), (0, .ref (a 0)), (1, .int x1), (2, .int x2)]) hx hb dX5_sums_14 rfl hl (by decide) rfl (fun ls hl => ?_)
    obtain ⟨n_15, hf⟩ := hf
    exact k_X5_sums_15 C0 hG n_15 su 0 _ _ _ hf hP hD hS (lv_sub hl [1, 2, 3, 0] rfl)
  · have hf := hf.1 c_2
    refine lv_ldc2 (v := (-1)) hx hb hown (hts _ mb_X5_sums_cl106) dX5_sums_9 ?_
    exact W.lret (v := (-1)) hx hb hr (fun t ht hW => ⟨⟨((-1) : Int64), su, rfl, hf, xHp ht hP⟩, hS.F ht⟩) hS.2.2 dX5_sums_12 hlocks

def p_X5_served_64 (mm : Int32) (nn : Int32) (we : Nat → Int32) (x1 : Int32) (x2 : Int32) (post : Int32 → (Nat → Int32) → Prop) (k33 : (Nat → Int32) → Int32 → Int32 → Prop) (be : Nat → Int32) (x4 : Int32) (s0 : Int32) (s1 : Int32) : Prop := k33 be (s1 + s0) (x4 + 1)
def p_X5_served_33 (mm : Int32) (nn : Int32) (we : Nat → Int32) (x1 : Int32) (x2 : Int32) (post : Int32 → (Nat → Int32) → Prop) : Nat → (Nat → Int32) → Int32 → Int32 → Prop
  | 0, _, _, _ => False
  | n + 1, be, x3, x4 => ((nn ≤ x4 → post x3 be) ∧ (¬ nn ≤ x4 → (vp_in ((6 * x1) + x4) 36 ∧ ((x2 < (be ((6 * x1) + x4).toNatClampNeg) → p_X5_served_64 mm nn we x1 x2 post (fun be x3 x4 => p_X5_served_33 mm nn we x1 x2 post n be x3 x4) be x4 0 x3) ∧ (¬ x2 < (be ((6 * x1) + x4).toNatClampNeg) → p_X5_served_64 mm nn we x1 x2 post (fun be x3 x4 => p_X5_served_33 mm nn we x1 x2 post n be x3 x4) be x4 1 x3)))))
def p_X5_served (mm : Int32) (nn : Int32) (we : Nat → Int32) (be : Nat → Int32) (x1 : Int32) (x2 : Int32) (post : Int32 → (Nat → Int32) → Prop) : Prop := p_X5_in (x1.toInt64) 0 ((mm - 1).toInt64) (fun r_1 => ((r_1 = 0 → post (-1) be) ∧ (¬ r_1 = 0 → ((0 ≤ x2 → p_X5_findBest mm nn we be 0 0 (fun be_4 => (∃ n_8, p_X5_served_33 mm nn we x1 x2 post n_8 be_4 0 0))) ∧ (¬ 0 ≤ x2 → post (-1) be)))))
theorem in_X5_served_X5 : ∀ w ∈ u_ws RX5 TX5 22, w ∈ wsX5_served := by decide +kernel
theorem lk_X5_served_13 : Cond.fieldLink RX5 13 "GrowingCornersModel" "n" "I" ∈ wsX5_served := by decide +kernel
theorem lk_X5_served_29 : Cond.fieldLink RX5 29 "GrowingCornersModel" "best" "[I" ∈ wsX5_served := by decide +kernel
theorem lk_X5_served_7 : Cond.fieldLink RX5 7 "GrowingCornersModel" "m" "I" ∈ wsX5_served := by decide +kernel
set_option maxHeartbeats 4000000 in
set_option maxRecDepth 100000 in
theorem k_X5_served_64 {p : Program} {l : Launch} {e : Env} {s : State} {m : MethodId} {args : Array Value} {below : List Frame} {meth : Method} {c : Code} {A : Nat → Prop} {D : va_G} {k : Nat → ClassId} {a : Nat → Nat} {mm : Int32} {nn : Int32} {we : Nat → Int32} {la : Nat → Int32} {si : Nat → Int32} {it : Nat → Int32} {pa : Nat → Int32} {su : Nat → Int64} {wo : Nat → Int32} {le : Int32} {pp : Nat → Int32} {qq : Nat → Int32} {ro : Nat → Int32} {lo : Nat → Int32} {lp : Nat → Int32} {lq : Nat → Int32} {rp : Nat → Int32} {rq : Nat → Int32} {se : Nat → Int32} {no : Nat → Int64} {ne : Nat → Int64} {x1 : Int32} {x2 : Int32} (C0 : xM p s m args meth c cX5_served 5 RX5 (some .int) wsX5_served) (hG : xG D k s) {post : Int32 → (Nat → Int32) → Prop} {k33 : (Nat → Int32) → Int32 → Int32 → Prop} (hk33 : ∀ (be : Nat → Int32) (x3 : Int32) (x4 : Int32) (H : Heap) (locs : List Loc) (ls : Array Slot), k33 be x3 x4 → va_P D vwCl (wM k a mm nn we la si it be pa su wo le pp qq ro lo lp lq rp rq se no ne) H → va_D A (wM k a mm nn we la si it be pa su wo le pp qq ro lo lp lq rp rq se no ne) → va_S A s.heap H locs → lv_has ls 5 [(0, .ref (a 0)), (1, .int x1), (2, .int x2), (3, .int x3), (4, .int x4)] → W p l e ({ frames := 2, cells := 0, slots := 0, locals := 47 }) s m args below meth c H locs 0 0 (MQ below (va_Qi (fun (r : Int32) (u : (Nat → Int32)) => post r u) (fun u t => va_P D vwCl (wM k a mm nn we la si it u pa su wo le pp qq ro lo lp lq rp rq se no ne) t.heap) A) args s 0 0 A) (F0 m 33 ls [])) : ∀ (be : Nat → Int32) (x4 : Int32) (s0 : Int32) (s1 : Int32) (H : Heap) (locs : List Loc) (ls : Array Slot), p_X5_served_64 mm nn we x1 x2 post k33 be x4 s0 s1 → va_P D vwCl (wM k a mm nn we la si it be pa su wo le pp qq ro lo lp lq rp rq se no ne) H → va_D A (wM k a mm nn we la si it be pa su wo le pp qq ro lo lp lq rp rq se no ne) → va_S A s.heap H locs → lv_has ls 5 [(0, .ref (a 0)), (1, .int x1), (2, .int x2), (4, .int x4)] → W p l e ({ frames := 2, cells := 0, slots := 0, locals := 47 }) s m args below meth c H locs 0 0 (MQ below (va_Qi (fun (r : Int32) (u : (Nat → Int32)) => post r u) (fun u t => va_P D vwCl (wM k a mm nn we la si it u pa su wo le pp qq ro lo lp lq rp rq se no ne) t.heap) A) args s 0 0 A) (F0 m 64 ls [.int s0, .int s1]) := by
  obtain ⟨hx, hb, hr, hts, hown, hlocks, hml⟩ := id C0
  intro be x4 s0 s1 H locs ls hf hP hD hS hl
  unfold p_X5_served_64 at hf
  refine lv_iadd hx hb dX5_served_64 ?_
  refine lv_istore_n (lv' := [(3, .int (s1 + s0)), (0, .ref (a 0)), (1, .int x1), (2, .int x2), (4, .int x4)]) hx hb dX5_served_65 rfl hl (by decide) rfl (fun ls hl => ?_)
  refine lv_iinc (v := x4 + 1) (lv' := [(4, .int (x4 + 1)), (3, .int (s1 + s0)), (0, .ref (a 0)), (1, .int x1), (2, .int x2)]) hx hb dX5_served_66 hl (k := 4) rfl rfl (by decide) rfl (fun ls hl => ?_)
  refine lv_goto (tgt := 33) hx hb dX5_served_69 (by decide) ?_
  exact hk33 be (s1 + s0) (x4 + 1) _ _ _ hf hP hD hS (lv_sub hl [2, 3, 4, 1, 0] rfl)
set_option maxHeartbeats 4000000 in
set_option maxRecDepth 100000 in
theorem k_X5_served_33 {p : Program} {l : Launch} {e : Env} {s : State} {m : MethodId} {args : Array Value} {below : List Frame} {meth : Method} {c : Code} {A : Nat → Prop} {D : va_G} {k : Nat → ClassId} {a : Nat → Nat} {mm : Int32} {nn : Int32} {we : Nat → Int32} {la : Nat → Int32} {si : Nat → Int32} {it : Nat → Int32} {pa : Nat → Int32} {su : Nat → Int64} {wo : Nat → Int32} {le : Int32} {pp : Nat → Int32} {qq : Nat → Int32} {ro : Nat → Int32} {lo : Nat → Int32} {lp : Nat → Int32} {lq : Nat → Int32} {rp : Nat → Int32} {rq : Nat → Int32} {se : Nat → Int32} {no : Nat → Int64} {ne : Nat → Int64} {x1 : Int32} {x2 : Int32} (C0 : xM p s m args meth c cX5_served 5 RX5 (some .int) wsX5_served) (hG : xG D k s) {post : Int32 → (Nat → Int32) → Prop} : ∀ (n : Nat) (be : Nat → Int32) (x3 : Int32) (x4 : Int32) (H : Heap) (locs : List Loc) (ls : Array Slot), p_X5_served_33 mm nn we x1 x2 post n be x3 x4 → va_P D vwCl (wM k a mm nn we la si it be pa su wo le pp qq ro lo lp lq rp rq se no ne) H → va_D A (wM k a mm nn we la si it be pa su wo le pp qq ro lo lp lq rp rq se no ne) → va_S A s.heap H locs → lv_has ls 5 [(0, .ref (a 0)), (1, .int x1), (2, .int x2), (3, .int x3), (4, .int x4)] → W p l e ({ frames := 2, cells := 0, slots := 0, locals := 47 }) s m args below meth c H locs 0 0 (MQ below (va_Qi (fun (r : Int32) (u : (Nat → Int32)) => post r u) (fun u t => va_P D vwCl (wM k a mm nn we la si it u pa su wo le pp qq ro lo lp lq rp rq se no ne) t.heap) A) args s 0 0 A) (F0 m 33 ls []) := by
  obtain ⟨hx, hb, hr, hts, hown, hlocks, hml⟩ := id C0
  intro n
  induction n with
  | zero =>
    intro be x3 x4 H locs ls hf
    exact False.elim hf
  | succ n ih =>
    intro be x3 x4 H locs ls hf hP hD hS hl
    unfold p_X5_served_33 at hf
    refine lv_iload hx hb dX5_served_33 (lv_at hl 4 rfl) ?_
    refine lv_aload_n hx hb dX5_served_35 rfl (lv_at hl 0 rfl) ?_
    refine va_get (D := D) (ci := 5) (C := RX5) (T := TX5) (N := 22) hx hb hts in_X5_served_X5 hown hG.1 hP 0 rfl rfl 1 (by decide) (hts _ lk_X5_served_13) (fun _ h9 => h9) rfl dX5_served_36 ?_
    refine lv_icmp_ge (tgt := 72) hx hb dX5_served_39 (by decide) (fun c_5 => ?_) (fun c_5 => ?_)
    · have hf := hf.1 c_5
      refine lv_iload_n hx hb dX5_served_72 rfl (lv_at hl 3 rfl) ?_
      exact W.iret (v := x3) hx hb hr (fun t ht hW => ⟨⟨x3, be, rfl, hf, xHp ht hP⟩, hS.F ht⟩) hS.2.2 dX5_served_73 hlocks
    · have hf := hf.2 c_5
      refine lv_iload_n hx hb dX5_served_42 rfl (lv_at hl 3 rfl) ?_
      refine lv_aload_n hx hb dX5_served_43 rfl (lv_at hl 0 rfl) ?_
      refine va_get (D := D) (ci := 5) (C := RX5) (T := TX5) (N := 22) hx hb hts in_X5_served_X5 hown hG.1 hP 0 rfl rfl 6 (by decide) (hts _ lk_X5_served_29) (fun _ h9 => h9) rfl dX5_served_44 ?_
      refine lv_bipush (v := 6) hx hb dX5_served_47 (by decide) ?_
      refine lv_iload_n hx hb dX5_served_49 rfl (lv_at hl 1 rfl) ?_
      refine lv_imul hx hb dX5_served_50 ?_
      refine lv_iload hx hb dX5_served_51 (lv_at hl 4 rfl) ?_
      refine lv_iadd hx hb dX5_served_53 ?_
      obtain ⟨h_6, hf⟩ := hf
      refine va_iald hx hb hG.1 hP 5 0 rfl rfl h_6 dX5_served_54 ?_
      refine lv_iload_n hx hb dX5_served_55 rfl (lv_at hl 2 rfl) ?_
      refine lv_icmp_gt (tgt := 63) hx hb dX5_served_56 (by decide) (fun c_7 => ?_) (fun c_7 => ?_)
      · have hf := hf.1 c_7
        refine lv_iconst (v := 0) hx hb dX5_served_63 (by decide) ?_
        exact k_X5_served_64 C0 hG ih be x4 0 x3 _ _ _ hf hP hD hS (lv_sub hl [0, 1, 2, 4] rfl)
      · have hf := hf.2 c_7
        refine lv_iconst (v := 1) hx hb dX5_served_59 (by decide) ?_
        refine lv_goto (tgt := 64) hx hb dX5_served_60 (by decide) ?_
        exact k_X5_served_64 C0 hG ih be x4 1 x3 _ _ _ hf hP hD hS (lv_sub hl [0, 1, 2, 4] rfl)
set_option maxHeartbeats 4000000 in
set_option maxRecDepth 100000 in
theorem c_X5_served {l : Launch} {D : va_G} {k : Nat → ClassId} (a : Nat → Nat) (mm : Int32) (nn : Int32) (we : Nat → Int32) (la : Nat → Int32) (si : Nat → Int32) (it : Nat → Int32) (be : Nat → Int32) (pa : Nat → Int32) (su : Nat → Int64) (wo : Nat → Int32) (le : Int32) (pp : Nat → Int32) (qq : Nat → Int32) (ro : Nat → Int32) (lo : Nat → Int32) (lp : Nat → Int32) (lq : Nat → Int32) (rp : Nat → Int32) (rq : Nat → Int32) (se : Nat → Int32) (no : Nat → Int64) (ne : Nat → Int64) (x1 : Int32) (x2 : Int32) {post : Int32 → (Nat → Int32) → Prop} (hf : p_X5_served mm nn we be x1 x2 post) : ctI l yX5_served wsX5_served ({ frames := 2, cells := 0, slots := 0, locals := 47 }) D k [.ref (a 0), .int x1, .int x2] (wM k a mm nn we la si it be pa su wo le pp qq ro lo lp lq rp rq se no ne) (fun u : (Nat → Int32) => wM k a mm nn we la si it u pa su wo le pp qq ro lo lp lq rp rq se no ne) (fun (r : Int32) (u : (Nat → Int32)) => post r u) := by
  refine Met.ofW (cc := cX5_served) (maxL := 5) (ret := (some .int)) (by decide) rfl ?_
  intro p e s m args below meth c s₁ B hml hv
  obtain ⟨rfl, hP, hG, hD0⟩ := hv
  have C0 : xM p s m ([.ref (a 0), .int x1, .int x2] : List Value).toArray meth c cX5_served 5 RX5 (some .int) wsX5_served := ⟨B.exec, B.bytes, B.returns, atoms_spec (ws := wsX5_served) B.pre, findClass_of_methodNamed B.named, B.notSynchronized, hml⟩
  obtain ⟨hx, hb, hr, hts, hown, hlocks, hml⟩ := id C0
  have hD := xSelf hD0
  have hS : va_S (xIn (wM k a mm nn we la si it be pa su wo le pp qq ro lo lp lq rp rq se no ne)) s.heap s.heap [] := va_S.rf
  generalize xIn (wM k a mm nn we la si it be pa su wo le pp qq ro lo lp lq rp rq se no ne) = A at hD hS ⊢
  have hl := lv_entry ([.ref (a 0), .int x1, .int x2]) (n := 5) (Nat.le_of_ble_eq_true rfl)
  rw [lg_entry_eq]
  generalize (lg_sl ([.ref (a 0), .int x1, .int x2]) ++ List.replicate (5 - (lg_sl ([.ref (a 0), .int x1, .int x2])).length) Slot.unset).toArray = ls at hl ⊢
  have hl : lv_has ls 5 [(0, .ref (a 0)), (1, .int x1), (2, .int x2)] := hl
  unfold p_X5_served at hf
  refine lv_iload_n hx hb dX5_served_0 rfl (lv_at hl 1 rfl) ?_
  refine lv_i2l (v := x1.toInt64) hx hb dX5_served_1 rfl ?_
  refine lv_lconst (v := 0) hx hb dX5_served_2 (by decide) ?_
  refine lv_aload_n hx hb dX5_served_3 rfl (lv_at hl 0 rfl) ?_
  refine va_get (D := D) (ci := 5) (C := RX5) (T := TX5) (N := 22) hx hb hts in_X5_served_X5 hown hG.1 hP 0 rfl rfl 0 (by decide) (hts _ lk_X5_served_7) (fun _ h9 => h9) rfl dX5_served_4 ?_
  refine lv_iconst (v := 1) hx hb dX5_served_7 (by decide) ?_
  refine lv_isub hx hb dX5_served_8 ?_
  refine lv_i2l (v := (mm - 1).toInt64) hx hb dX5_served_9 rfl ?_
  have hp : xPerm (wM k a mm nn we la si it be pa su wo le pp qq ro lo lp lq rp rq se no ne) (([]) ++ (wM k a mm nn we la si it be pa su wo le pp qq ro lo lp lq rp rq se no ne)) := (List.Perm.refl _)
  refine xCallI (w := []) (r := wM k a mm nn we la si it be pa su wo le pp qq ro lo lp lq rp rq se no ne) (va_runS (As := [.long (x1.toInt64), .long 0, .long ((mm - 1).toInt64)]) (rest := []) ⟨hx, hb, hml, hown, hts⟩ (c_X5_in (x1.toInt64) 0 ((mm - 1).toInt64) hf) (va_cwS 3 hts gX5_served_X5_in rfl rfl rfl (by decide +kernel) ⟨Nat.le_of_ble_eq_true rfl, Nat.le_of_ble_eq_true rfl⟩) (xPreS hG hP hD hp) rfl rfl hl.1 rfl (lv_room (Nat.le_of_ble_eq_true rfl)) dX5_served_10 ⟨Nat.zero_le _, Nat.zero_le _⟩) hP hD hS hp (fun _ => rfl) (fun r_1 _ H locs hf hP hD hS => ?_)
  have hP : va_P D vwCl (wM k a mm nn we la si it be pa su wo le pp qq ro lo lp lq rp rq se no ne) H := hP
  have hD : va_D A (wM k a mm nn we la si it be pa su wo le pp qq ro lo lp lq rp rq se no ne) := hD
  refine lv_if_eq (tgt := 20) hx hb dX5_served_13 (by decide) (fun c_2 => ?_) (fun c_2 => ?_)
  · have hf := hf.1 c_2
    refine lv_iconst (v := (-1)) hx hb dX5_served_20 (by decide) ?_
    exact W.iret (v := (-1)) hx hb hr (fun t ht hW => ⟨⟨((-1) : Int32), be, rfl, hf, xHp ht hP⟩, hS.F ht⟩) hS.2.2 dX5_served_21 hlocks
  · have hf := hf.2 c_2
    refine lv_iload_n hx hb dX5_served_16 rfl (lv_at hl 2 rfl) ?_
    refine lv_if_ge (tgt := 22) hx hb dX5_served_17 (by decide) (fun c_3 => ?_) (fun c_3 => ?_)
    · have hf := hf.1 c_3
      refine lv_aload_n hx hb dX5_served_22 rfl (lv_at hl 0 rfl) ?_
      refine lv_iconst (v := 0) hx hb dX5_served_23 (by decide) ?_
      refine lv_iconst (v := 0) hx hb dX5_served_24 (by decide) ?_
      have hp : xPerm (wM k a mm nn we la si it be pa su wo le pp qq ro lo lp lq rp rq se no ne) ((wM k a mm nn we la si it be pa su wo le pp qq ro lo lp lq rp rq se no ne) ++ ([])) := xPermNil
      refine xCallV (w := wM k a mm nn we la si it be pa su wo le pp qq ro lo lp lq rp rq se no ne) (r := []) (va_runV (As := [.int 0, .int 0]) (rest := []) ⟨hx, hb, hml, hown, hts⟩ (c_X5_findBest a mm nn we la si it be pa su wo le pp qq ro lo lp lq rp rq se no ne 0 0 hf) (cwV 2 hts gX5_served_X5_findBest rfl rfl rfl (by decide +kernel) ⟨Nat.le_of_ble_eq_true rfl, Nat.le_of_ble_eq_true rfl⟩) (xPreV hG hP hD hp (ci := 5) rfl (i := 0) rfl) rfl rfl hl.1 rfl (lv_room (Nat.le_of_ble_eq_true rfl)) dX5_served_25 ⟨Nat.zero_le _, Nat.zero_le _⟩) hP hD hS hp (fun _ => rfl) (fun be_4 H locs hf hP hD hS => ?_)
      have hP : va_P D vwCl (wM k a mm nn we la si it be_4 pa su wo le pp qq ro lo lp lq rp rq se no ne) H := xNilP hP
      have hD : va_D A (wM k a mm nn we la si it be_4 pa su wo le pp qq ro lo lp lq rp rq se no ne) := xNilD hD
      refine lv_iconst (v := 0) hx hb dX5_served_28 (by decide) ?_
      refine lv_istore_n (lv' := [(3, .int 0), (0, .ref (a 0)), (1, .int x1), (2, .int x2)]) hx hb dX5_served_29 rfl hl (by decide) rfl (fun ls hl => ?_)
      refine lv_iconst (v := 0) hx hb dX5_served_30 (by decide) ?_
      refine lv_istore (lv' := [(4, .int 0), (3, .int 0), (0, .ref (a 0)), (1, .int x1), (2, .int x2)]) hx hb dX5_served_31 hl (by decide) rfl (fun ls hl => ?_)
      obtain ⟨n_8, hf⟩ := hf
      exact k_X5_served_33 C0 hG n_8 be_4 0 0 _ _ _ hf hP hD hS (lv_sub hl [2, 3, 4, 1, 0] rfl)
    · have hf := hf.2 c_3
      refine lv_iconst (v := (-1)) hx hb dX5_served_20 (by decide) ?_
      exact W.iret (v := (-1)) hx hb hr (fun t ht hW => ⟨⟨((-1) : Int32), be, rfl, hf, xHp ht hP⟩, hS.F ht⟩) hS.2.2 dX5_served_21 hlocks

def p_X5_line_122 (mm : Int32) (nn : Int32) (we : Nat → Int32) (x1 : Int32) (post : Int32 → (Nat → Int32) → Prop) (k36 : (Nat → Int32) → Int32 → Int32 → Int32 → Prop) (be : Nat → Int32) (x2 : Int32) (x4 : Int32) (s0 : Int32) (s1 : Int32) : Prop := k36 be x2 (s1 + s0) (x4 + 1)
def p_X5_line_109 (mm : Int32) (nn : Int32) (we : Nat → Int32) (x1 : Int32) (post : Int32 → (Nat → Int32) → Prop) (k36 : (Nat → Int32) → Int32 → Int32 → Int32 → Prop) (be : Nat → Int32) (x3 : Int32) (x4 : Int32) (x5 : Int32) (s0 : Int32) (s1 : Int32) : Prop := ((x5 = 0 → p_X5_line_122 mm nn we x1 post k36 be (s1 + s0) x4 1 x3) ∧ (¬ x5 = 0 → p_X5_line_122 mm nn we x1 post k36 be (s1 + s0) x4 0 x3))
def p_X5_line_96 (mm : Int32) (nn : Int32) (we : Nat → Int32) (x1 : Int32) (post : Int32 → (Nat → Int32) → Prop) (k36 : (Nat → Int32) → Int32 → Int32 → Int32 → Prop) (be : Nat → Int32) (x2 : Int32) (x3 : Int32) (x4 : Int32) (s0 : Int32) : Prop := ((s0 = 0 → p_X5_line_109 mm nn we x1 post k36 be x3 x4 s0 0 x2) ∧ (¬ s0 = 0 → p_X5_line_109 mm nn we x1 post k36 be x3 x4 s0 1 x2))
def p_X5_line_91 (mm : Int32) (nn : Int32) (we : Nat → Int32) (x1 : Int32) (post : Int32 → (Nat → Int32) → Prop) (k36 : (Nat → Int32) → Int32 → Int32 → Int32 → Prop) (be : Nat → Int32) (x2 : Int32) (x3 : Int32) (x4 : Int32) : Prop := p_X5_line_96 mm nn we x1 post k36 be x2 x3 x4 1
def p_X5_line_95 (mm : Int32) (nn : Int32) (we : Nat → Int32) (x1 : Int32) (post : Int32 → (Nat → Int32) → Prop) (k36 : (Nat → Int32) → Int32 → Int32 → Int32 → Prop) (be : Nat → Int32) (x2 : Int32) (x3 : Int32) (x4 : Int32) : Prop := p_X5_line_96 mm nn we x1 post k36 be x2 x3 x4 0
def p_X5_line_36 (mm : Int32) (nn : Int32) (we : Nat → Int32) (x1 : Int32) (post : Int32 → (Nat → Int32) → Prop) : Nat → (Nat → Int32) → Int32 → Int32 → Int32 → Prop
  | 0, _, _, _, _ => False
  | n + 1, be, x2, x3, x4 => ((x1 ≤ x4 → post ((10 * x2) + x3) be) ∧ (¬ x1 ≤ x4 → ((x3 = (nn - 1) → p_X5_line_91 mm nn we x1 post (fun be x2 x3 x4 => p_X5_line_36 mm nn we x1 post n be x2 x3 x4) be x2 x3 x4) ∧ (¬ x3 = (nn - 1) → (((mm - 1) ≤ x2 → p_X5_line_95 mm nn we x1 post (fun be x2 x3 x4 => p_X5_line_36 mm nn we x1 post n be x2 x3 x4) be x2 x3 x4) ∧ (¬ (mm - 1) ≤ x2 → (vp_in ((6 * (x2 + 1)) + x3) 36 ∧ (vp_in (((6 * x2) + x3) + 1) 36 ∧ (((be (((6 * x2) + x3) + 1).toNatClampNeg) ≤ (be ((6 * (x2 + 1)) + x3).toNatClampNeg) → p_X5_line_95 mm nn we x1 post (fun be x2 x3 x4 => p_X5_line_36 mm nn we x1 post n be x2 x3 x4) be x2 x3 x4) ∧ (¬ (be (((6 * x2) + x3) + 1).toNatClampNeg) ≤ (be ((6 * (x2 + 1)) + x3).toNatClampNeg) → p_X5_line_91 mm nn we x1 post (fun be x2 x3 x4 => p_X5_line_36 mm nn we x1 post n be x2 x3 x4) be x2 x3 x4))))))))))
def p_X5_line (mm : Int32) (nn : Int32) (we : Nat → Int32) (be : Nat → Int32) (x1 : Int32) (post : Int32 → (Nat → Int32) → Prop) : Prop := p_X5_in (x1.toInt64) 0 (((mm + nn) - 2).toInt64) (fun r_1 => ((r_1 = 0 → post (-1) be) ∧ (¬ r_1 = 0 → p_X5_findBest mm nn we be 0 0 (fun be_3 => (∃ n_12, p_X5_line_36 mm nn we x1 post n_12 be_3 0 0 0)))))
theorem in_X5_line_X5 : ∀ w ∈ u_ws RX5 TX5 22, w ∈ wsX5_line := by decide +kernel
theorem lk_X5_line_13 : Cond.fieldLink RX5 13 "GrowingCornersModel" "n" "I" ∈ wsX5_line := by decide +kernel
theorem lk_X5_line_29 : Cond.fieldLink RX5 29 "GrowingCornersModel" "best" "[I" ∈ wsX5_line := by decide +kernel
theorem lk_X5_line_7 : Cond.fieldLink RX5 7 "GrowingCornersModel" "m" "I" ∈ wsX5_line := by decide +kernel
set_option maxHeartbeats 4000000 in
set_option maxRecDepth 100000 in
theorem k_X5_line_122 {p : Program} {l : Launch} {e : Env} {s : State} {m : MethodId} {args : Array Value} {below : List Frame} {meth : Method} {c : Code} {A : Nat → Prop} {D : va_G} {k : Nat → ClassId} {a : Nat → Nat} {mm : Int32} {nn : Int32} {we : Nat → Int32} {la : Nat → Int32} {si : Nat → Int32} {it : Nat → Int32} {pa : Nat → Int32} {su : Nat → Int64} {wo : Nat → Int32} {le : Int32} {pp : Nat → Int32} {qq : Nat → Int32} {ro : Nat → Int32} {lo : Nat → Int32} {lp : Nat → Int32} {lq : Nat → Int32} {rp : Nat → Int32} {rq : Nat → Int32} {se : Nat → Int32} {no : Nat → Int64} {ne : Nat → Int64} {x1 : Int32} (C0 : xM p s m args meth c cX5_line 6 RX5 (some .int) wsX5_line) (hG : xG D k s) {post : Int32 → (Nat → Int32) → Prop} {k36 : (Nat → Int32) → Int32 → Int32 → Int32 → Prop} (hk36 : ∀ (be : Nat → Int32) (x2 : Int32) (x3 : Int32) (x4 : Int32) (H : Heap) (locs : List Loc) (ls : Array Slot), k36 be x2 x3 x4 → va_P D vwCl (wM k a mm nn we la si it be pa su wo le pp qq ro lo lp lq rp rq se no ne) H → va_D A (wM k a mm nn we la si it be pa su wo le pp qq ro lo lp lq rp rq se no ne) → va_S A s.heap H locs → lv_has ls 6 [(0, .ref (a 0)), (1, .int x1), (2, .int x2), (3, .int x3), (4, .int x4)] → W p l e ({ frames := 2, cells := 0, slots := 0, locals := 47 }) s m args below meth c H locs 0 0 (MQ below (va_Qi (fun (r : Int32) (u : (Nat → Int32)) => post r u) (fun u t => va_P D vwCl (wM k a mm nn we la si it u pa su wo le pp qq ro lo lp lq rp rq se no ne) t.heap) A) args s 0 0 A) (F0 m 36 ls [])) : ∀ (be : Nat → Int32) (x2 : Int32) (x4 : Int32) (s0 : Int32) (s1 : Int32) (H : Heap) (locs : List Loc) (ls : Array Slot), p_X5_line_122 mm nn we x1 post k36 be x2 x4 s0 s1 → va_P D vwCl (wM k a mm nn we la si it be pa su wo le pp qq ro lo lp lq rp rq se no ne) H → va_D A (wM k a mm nn we la si it be pa su wo le pp qq ro lo lp lq rp rq se no ne) → va_S A s.heap H locs → lv_has ls 6 [(0, .ref (a 0)), (1, .int x1), (2, .int x2), (4, .int x4)] → W p l e ({ frames := 2, cells := 0, slots := 0, locals := 47 }) s m args below meth c H locs 0 0 (MQ below (va_Qi (fun (r : Int32) (u : (Nat → Int32)) => post r u) (fun u t => va_P D vwCl (wM k a mm nn we la si it u pa su wo le pp qq ro lo lp lq rp rq se no ne) t.heap) A) args s 0 0 A) (F0 m 122 ls [.int s0, .int s1]) := by
  obtain ⟨hx, hb, hr, hts, hown, hlocks, hml⟩ := id C0
  intro be x2 x4 s0 s1 H locs ls hf hP hD hS hl
  unfold p_X5_line_122 at hf
  refine lv_iadd hx hb dX5_line_122 ?_
  refine lv_istore_n (lv' := [(3, .int (s1 + s0)), (0, .ref (a 0)), (1, .int x1), (2, .int x2), (4, .int x4)]) hx hb dX5_line_123 rfl hl (by decide) rfl (fun ls hl => ?_)
  refine lv_iinc (v := x4 + 1) (lv' := [(4, .int (x4 + 1)), (3, .int (s1 + s0)), (0, .ref (a 0)), (1, .int x1), (2, .int x2)]) hx hb dX5_line_124 hl (k := 4) rfl rfl (by decide) rfl (fun ls hl => ?_)
  refine lv_goto (tgt := 36) hx hb dX5_line_127 (by decide) ?_
  exact hk36 be x2 (s1 + s0) (x4 + 1) _ _ _ hf hP hD hS (lv_sub hl [2, 3, 4, 1, 0] rfl)
set_option maxHeartbeats 4000000 in
set_option maxRecDepth 100000 in
theorem k_X5_line_109 {p : Program} {l : Launch} {e : Env} {s : State} {m : MethodId} {args : Array Value} {below : List Frame} {meth : Method} {c : Code} {A : Nat → Prop} {D : va_G} {k : Nat → ClassId} {a : Nat → Nat} {mm : Int32} {nn : Int32} {we : Nat → Int32} {la : Nat → Int32} {si : Nat → Int32} {it : Nat → Int32} {pa : Nat → Int32} {su : Nat → Int64} {wo : Nat → Int32} {le : Int32} {pp : Nat → Int32} {qq : Nat → Int32} {ro : Nat → Int32} {lo : Nat → Int32} {lp : Nat → Int32} {lq : Nat → Int32} {rp : Nat → Int32} {rq : Nat → Int32} {se : Nat → Int32} {no : Nat → Int64} {ne : Nat → Int64} {x1 : Int32} (C0 : xM p s m args meth c cX5_line 6 RX5 (some .int) wsX5_line) (hG : xG D k s) {post : Int32 → (Nat → Int32) → Prop} {k36 : (Nat → Int32) → Int32 → Int32 → Int32 → Prop} (hk36 : ∀ (be : Nat → Int32) (x2 : Int32) (x3 : Int32) (x4 : Int32) (H : Heap) (locs : List Loc) (ls : Array Slot), k36 be x2 x3 x4 → va_P D vwCl (wM k a mm nn we la si it be pa su wo le pp qq ro lo lp lq rp rq se no ne) H → va_D A (wM k a mm nn we la si it be pa su wo le pp qq ro lo lp lq rp rq se no ne) → va_S A s.heap H locs → lv_has ls 6 [(0, .ref (a 0)), (1, .int x1), (2, .int x2), (3, .int x3), (4, .int x4)] → W p l e ({ frames := 2, cells := 0, slots := 0, locals := 47 }) s m args below meth c H locs 0 0 (MQ below (va_Qi (fun (r : Int32) (u : (Nat → Int32)) => post r u) (fun u t => va_P D vwCl (wM k a mm nn we la si it u pa su wo le pp qq ro lo lp lq rp rq se no ne) t.heap) A) args s 0 0 A) (F0 m 36 ls [])) : ∀ (be : Nat → Int32) (x3 : Int32) (x4 : Int32) (x5 : Int32) (s0 : Int32) (s1 : Int32) (H : Heap) (locs : List Loc) (ls : Array Slot), p_X5_line_109 mm nn we x1 post k36 be x3 x4 x5 s0 s1 → va_P D vwCl (wM k a mm nn we la si it be pa su wo le pp qq ro lo lp lq rp rq se no ne) H → va_D A (wM k a mm nn we la si it be pa su wo le pp qq ro lo lp lq rp rq se no ne) → va_S A s.heap H locs → lv_has ls 6 [(0, .ref (a 0)), (1, .int x1), (3, .int x3), (4, .int x4), (5, .int x5)] → W p l e ({ frames := 2, cells := 0, slots := 0, locals := 47 }) s m args below meth c H locs 0 0 (MQ below (va_Qi (fun (r : Int32) (u : (Nat → Int32)) => post r u) (fun u t => va_P D vwCl (wM k a mm nn we la si it u pa su wo le pp qq ro lo lp lq rp rq se no ne) t.heap) A) args s 0 0 A) (F0 m 109 ls [.int s0, .int s1]) := by
  obtain ⟨hx, hb, hr, hts, hown, hlocks, hml⟩ := id C0
  intro be x3 x4 x5 s0 s1 H locs ls hf hP hD hS hl
  unfold p_X5_line_109 at hf
  refine lv_iadd hx hb dX5_line_109 ?_
  refine lv_istore_n (lv' := [(2, .int (s1 + s0)), (0, .ref (a 0)), (1, .int x1), (3, .int x3), (4, .int x4), (5, .int x5)]) hx hb dX5_line_110 rfl hl (by decide) rfl (fun ls hl => ?_)
  refine lv_iload_n hx hb dX5_line_111 rfl (lv_at hl 3 rfl) ?_
  refine lv_iload hx hb dX5_line_112 (lv_at hl 5 rfl) ?_
  refine lv_if_eq (tgt := 121) hx hb dX5_line_114 (by decide) (fun c_7 => ?_) (fun c_7 => ?_)
  · have hf := hf.1 c_7
    refine lv_iconst (v := 1) hx hb dX5_line_121 (by decide) ?_
    exact k_X5_line_122 C0 hG hk36 be (s1 + s0) x4 1 x3 _ _ _ hf hP hD hS (lv_sub hl [1, 2, 0, 4] rfl)
  · have hf := hf.2 c_7
    refine lv_iconst (v := 0) hx hb dX5_line_117 (by decide) ?_
    refine lv_goto (tgt := 122) hx hb dX5_line_118 (by decide) ?_
    exact k_X5_line_122 C0 hG hk36 be (s1 + s0) x4 0 x3 _ _ _ hf hP hD hS (lv_sub hl [1, 2, 0, 4] rfl)
set_option maxHeartbeats 4000000 in
set_option maxRecDepth 100000 in
theorem k_X5_line_96 {p : Program} {l : Launch} {e : Env} {s : State} {m : MethodId} {args : Array Value} {below : List Frame} {meth : Method} {c : Code} {A : Nat → Prop} {D : va_G} {k : Nat → ClassId} {a : Nat → Nat} {mm : Int32} {nn : Int32} {we : Nat → Int32} {la : Nat → Int32} {si : Nat → Int32} {it : Nat → Int32} {pa : Nat → Int32} {su : Nat → Int64} {wo : Nat → Int32} {le : Int32} {pp : Nat → Int32} {qq : Nat → Int32} {ro : Nat → Int32} {lo : Nat → Int32} {lp : Nat → Int32} {lq : Nat → Int32} {rp : Nat → Int32} {rq : Nat → Int32} {se : Nat → Int32} {no : Nat → Int64} {ne : Nat → Int64} {x1 : Int32} (C0 : xM p s m args meth c cX5_line 6 RX5 (some .int) wsX5_line) (hG : xG D k s) {post : Int32 → (Nat → Int32) → Prop} {k36 : (Nat → Int32) → Int32 → Int32 → Int32 → Prop} (hk36 : ∀ (be : Nat → Int32) (x2 : Int32) (x3 : Int32) (x4 : Int32) (H : Heap) (locs : List Loc) (ls : Array Slot), k36 be x2 x3 x4 → va_P D vwCl (wM k a mm nn we la si it be pa su wo le pp qq ro lo lp lq rp rq se no ne) H → va_D A (wM k a mm nn we la si it be pa su wo le pp qq ro lo lp lq rp rq se no ne) → va_S A s.heap H locs → lv_has ls 6 [(0, .ref (a 0)), (1, .int x1), (2, .int x2), (3, .int x3), (4, .int x4)] → W p l e ({ frames := 2, cells := 0, slots := 0, locals := 47 }) s m args below meth c H locs 0 0 (MQ below (va_Qi (fun (r : Int32) (u : (Nat → Int32)) => post r u) (fun u t => va_P D vwCl (wM k a mm nn we la si it u pa su wo le pp qq ro lo lp lq rp rq se no ne) t.heap) A) args s 0 0 A) (F0 m 36 ls [])) : ∀ (be : Nat → Int32) (x2 : Int32) (x3 : Int32) (x4 : Int32) (s0 : Int32) (H : Heap) (locs : List Loc) (ls : Array Slot), p_X5_line_96 mm nn we x1 post k36 be x2 x3 x4 s0 → va_P D vwCl (wM k a mm nn we la si it be pa su wo le pp qq ro lo lp lq rp rq se no ne) H → va_D A (wM k a mm nn we la si it be pa su wo le pp qq ro lo lp lq rp rq se no ne) → va_S A s.heap H locs → lv_has ls 6 [(0, .ref (a 0)), (1, .int x1), (2, .int x2), (3, .int x3), (4, .int x4)] → W p l e ({ frames := 2, cells := 0, slots := 0, locals := 47 }) s m args below meth c H locs 0 0 (MQ below (va_Qi (fun (r : Int32) (u : (Nat → Int32)) => post r u) (fun u t => va_P D vwCl (wM k a mm nn we la si it u pa su wo le pp qq ro lo lp lq rp rq se no ne) t.heap) A) args s 0 0 A) (F0 m 96 ls [.int s0]) := by
  obtain ⟨hx, hb, hr, hts, hown, hlocks, hml⟩ := id C0
  intro be x2 x3 x4 s0 H locs ls hf hP hD hS hl
  unfold p_X5_line_96 at hf
  refine lv_istore (lv' := [(5, .int s0), (0, .ref (a 0)), (1, .int x1), (2, .int x2), (3, .int x3), (4, .int x4)]) hx hb dX5_line_96 hl (by decide) rfl (fun ls hl => ?_)
  refine lv_iload_n hx hb dX5_line_98 rfl (lv_at hl 3 rfl) ?_
  refine lv_iload hx hb dX5_line_99 (lv_at hl 0 rfl) ?_
  refine lv_if_eq (tgt := 108) hx hb dX5_line_101 (by decide) (fun c_6 => ?_) (fun c_6 => ?_)
  · have hf := hf.1 c_6
    refine lv_iconst (v := 0) hx hb dX5_line_108 (by decide) ?_
    exact k_X5_line_109 C0 hG hk36 be x3 x4 s0 0 x2 _ _ _ hf hP hD hS (lv_sub hl [1, 2, 4, 5, 0] rfl)
  · have hf := hf.2 c_6
    refine lv_iconst (v := 1) hx hb dX5_line_104 (by decide) ?_
    refine lv_goto (tgt := 109) hx hb dX5_line_105 (by decide) ?_
    exact k_X5_line_109 C0 hG hk36 be x3 x4 s0 1 x2 _ _ _ hf hP hD hS (lv_sub hl [1, 2, 4, 5, 0] rfl)
set_option maxHeartbeats 4000000 in
set_option maxRecDepth 100000 in
theorem k_X5_line_91 {p : Program} {l : Launch} {e : Env} {s : State} {m : MethodId} {args : Array Value} {below : List Frame} {meth : Method} {c : Code} {A : Nat → Prop} {D : va_G} {k : Nat → ClassId} {a : Nat → Nat} {mm : Int32} {nn : Int32} {we : Nat → Int32} {la : Nat → Int32} {si : Nat → Int32} {it : Nat → Int32} {pa : Nat → Int32} {su : Nat → Int64} {wo : Nat → Int32} {le : Int32} {pp : Nat → Int32} {qq : Nat → Int32} {ro : Nat → Int32} {lo : Nat → Int32} {lp : Nat → Int32} {lq : Nat → Int32} {rp : Nat → Int32} {rq : Nat → Int32} {se : Nat → Int32} {no : Nat → Int64} {ne : Nat → Int64} {x1 : Int32} (C0 : xM p s m args meth c cX5_line 6 RX5 (some .int) wsX5_line) (hG : xG D k s) {post : Int32 → (Nat → Int32) → Prop} {k36 : (Nat → Int32) → Int32 → Int32 → Int32 → Prop} (hk36 : ∀ (be : Nat → Int32) (x2 : Int32) (x3 : Int32) (x4 : Int32) (H : Heap) (locs : List Loc) (ls : Array Slot), k36 be x2 x3 x4 → va_P D vwCl (wM k a mm nn we la si it be pa su wo le pp qq ro lo lp lq rp rq se no ne) H → va_D A (wM k a mm nn we la si it be pa su wo le pp qq ro lo lp lq rp rq se no ne) → va_S A s.heap H locs → lv_has ls 6 [(0, .ref (a 0)), (1, .int x1), (2, .int x2), (3, .int x3), (4, .int x4)] → W p l e ({ frames := 2, cells := 0, slots := 0, locals := 47 }) s m args below meth c H locs 0 0 (MQ below (va_Qi (fun (r : Int32) (u : (Nat → Int32)) => post r u) (fun u t => va_P D vwCl (wM k a mm nn we la si it u pa su wo le pp qq ro lo lp lq rp rq se no ne) t.heap) A) args s 0 0 A) (F0 m 36 ls [])) : ∀ (be : Nat → Int32) (x2 : Int32) (x3 : Int32) (x4 : Int32) (H : Heap) (locs : List Loc) (ls : Array Slot), p_X5_line_91 mm nn we x1 post k36 be x2 x3 x4 → va_P D vwCl (wM k a mm nn we la si it be pa su wo le pp qq ro lo lp lq rp rq se no ne) H → va_D A (wM k a mm nn we la si it be pa su wo le pp qq ro lo lp lq rp rq se no ne) → va_S A s.heap H locs → lv_has ls 6 [(0, .ref (a 0)), (1, .int x1), (2, .int x2), (3, .int x3), (4, .int x4)] → W p l e ({ frames := 2, cells := 0, slots := 0, locals := 47 }) s m args below meth c H locs 0 0 (MQ below (va_Qi (fun (r : Int32) (u : (Nat → Int32)) => post r u) (fun u t => va_P D vwCl (wM k a mm nn we la si it u pa su wo le pp qq ro lo lp lq rp rq se no ne) t.heap) A) args s 0 0 A) (F0 m 91 ls []) := by
  obtain ⟨hx, hb, hr, hts, hown, hlocks, hml⟩ := id C0
  intro be x2 x3 x4 H locs ls hf hP hD hS hl
  unfold p_X5_line_91 at hf
  refine lv_iconst (v := 1) hx hb dX5_line_91 (by decide) ?_
  refine lv_goto (tgt := 96) hx hb dX5_line_92 (by decide) ?_
  exact k_X5_line_96 C0 hG hk36 be x2 x3 x4 1 _ _ _ hf hP hD hS (lv_sub hl [0, 1, 2, 3, 4] rfl)
set_option maxHeartbeats 4000000 in
set_option maxRecDepth 100000 in
theorem k_X5_line_95 {p : Program} {l : Launch} {e : Env} {s : State} {m : MethodId} {args : Array Value} {below : List Frame} {meth : Method} {c : Code} {A : Nat → Prop} {D : va_G} {k : Nat → ClassId} {a : Nat → Nat} {mm : Int32} {nn : Int32} {we : Nat → Int32} {la : Nat → Int32} {si : Nat → Int32} {it : Nat → Int32} {pa : Nat → Int32} {su : Nat → Int64} {wo : Nat → Int32} {le : Int32} {pp : Nat → Int32} {qq : Nat → Int32} {ro : Nat → Int32} {lo : Nat → Int32} {lp : Nat → Int32} {lq : Nat → Int32} {rp : Nat → Int32} {rq : Nat → Int32} {se : Nat → Int32} {no : Nat → Int64} {ne : Nat → Int64} {x1 : Int32} (C0 : xM p s m args meth c cX5_line 6 RX5 (some .int) wsX5_line) (hG : xG D k s) {post : Int32 → (Nat → Int32) → Prop} {k36 : (Nat → Int32) → Int32 → Int32 → Int32 → Prop} (hk36 : ∀ (be : Nat → Int32) (x2 : Int32) (x3 : Int32) (x4 : Int32) (H : Heap) (locs : List Loc) (ls : Array Slot), k36 be x2 x3 x4 → va_P D vwCl (wM k a mm nn we la si it be pa su wo le pp qq ro lo lp lq rp rq se no ne) H → va_D A (wM k a mm nn we la si it be pa su wo le pp qq ro lo lp lq rp rq se no ne) → va_S A s.heap H locs → lv_has ls 6 [(0, .ref (a 0)), (1, .int x1), (2, .int x2), (3, .int x3), (4, .int x4)] → W p l e ({ frames := 2, cells := 0, slots := 0, locals := 47 }) s m args below meth c H locs 0 0 (MQ below (va_Qi (fun (r : Int32) (u : (Nat → Int32)) => post r u) (fun u t => va_P D vwCl (wM k a mm nn we la si it u pa su wo le pp qq ro lo lp lq rp rq se no ne) t.heap) A) args s 0 0 A) (F0 m 36 ls [])) : ∀ (be : Nat → Int32) (x2 : Int32) (x3 : Int32) (x4 : Int32) (H : Heap) (locs : List Loc) (ls : Array Slot), p_X5_line_95 mm nn we x1 post k36 be x2 x3 x4 → va_P D vwCl (wM k a mm nn we la si it be pa su wo le pp qq ro lo lp lq rp rq se no ne) H → va_D A (wM k a mm nn we la si it be pa su wo le pp qq ro lo lp lq rp rq se no ne) → va_S A s.heap H locs → lv_has ls 6 [(0, .ref (a 0)), (1, .int x1), (2, .int x2), (3, .int x3), (4, .int x4)] → W p l e ({ frames := 2, cells := 0, slots := 0, locals := 47 }) s m args below meth c H locs 0 0 (MQ below (va_Qi (fun (r : Int32) (u : (Nat → Int32)) => post r u) (fun u t => va_P D vwCl (wM k a mm nn we la si it u pa su wo le pp qq ro lo lp lq rp rq se no ne) t.heap) A) args s 0 0 A) (F0 m 95 ls []) := by
  obtain ⟨hx, hb, hr, hts, hown, hlocks, hml⟩ := id C0
  intro be x2 x3 x4 H locs ls hf hP hD hS hl
  unfold p_X5_line_95 at hf
  refine lv_iconst (v := 0) hx hb dX5_line_95 (by decide) ?_
  exact k_X5_line_96 C0 hG hk36 be x2 x3 x4 0 _ _ _ hf hP hD hS (lv_sub hl [0, 1, 2, 3, 4] rfl)
set_option maxHeartbeats 4000000 in
set_option maxRecDepth 100000 in
theorem k_X5_line_36 {p : Program} {l : Launch} {e : Env} {s : State} {m : MethodId} {args : Array Value} {below : List Frame} {meth : Method} {c : Code} {A : Nat → Prop} {D : va_G} {k : Nat → ClassId} {a : Nat → Nat} {mm : Int32} {nn : Int32} {we : Nat → Int32} {la : Nat → Int32} {si : Nat → Int32} {it : Nat → Int32} {pa : Nat → Int32} {su : Nat → Int64} {wo : Nat → Int32} {le : Int32} {pp : Nat → Int32} {qq : Nat → Int32} {ro : Nat → Int32} {lo : Nat → Int32} {lp : Nat → Int32} {lq : Nat → Int32} {rp : Nat → Int32} {rq : Nat → Int32} {se : Nat → Int32} {no : Nat → Int64} {ne : Nat → Int64} {x1 : Int32} (C0 : xM p s m args meth c cX5_line 6 RX5 (some .int) wsX5_line) (hG : xG D k s) {post : Int32 → (Nat → Int32) → Prop} : ∀ (n : Nat) (be : Nat → Int32) (x2 : Int32) (x3 : Int32) (x4 : Int32) (H : Heap) (locs : List Loc) (ls : Array Slot), p_X5_line_36 mm nn we x1 post n be x2 x3 x4 → va_P D vwCl (wM k a mm nn we la si it be pa su wo le pp qq ro lo lp lq rp rq se no ne) H → va_D A (wM k a mm nn we la si it be pa su wo le pp qq ro lo lp lq rp rq se no ne) → va_S A s.heap H locs → lv_has ls 6 [(0, .ref (a 0)), (1, .int x1), (2, .int x2), (3, .int x3), (4, .int x4)] → W p l e ({ frames := 2, cells := 0, slots := 0, locals := 47 }) s m args below meth c H locs 0 0 (MQ below (va_Qi (fun (r : Int32) (u : (Nat → Int32)) => post r u) (fun u t => va_P D vwCl (wM k a mm nn we la si it u pa su wo le pp qq ro lo lp lq rp rq se no ne) t.heap) A) args s 0 0 A) (F0 m 36 ls []) := by
  obtain ⟨hx, hb, hr, hts, hown, hlocks, hml⟩ := id C0
  intro n
  induction n with
  | zero =>
    intro be x2 x3 x4 H locs ls hf
    exact False.elim hf
  | succ n ih =>
    intro be x2 x3 x4 H locs ls hf hP hD hS hl
    unfold p_X5_line_36 at hf
    refine lv_iload hx hb dX5_line_36 (lv_at hl 4 rfl) ?_
    refine lv_iload_n hx hb dX5_line_38 rfl (lv_at hl 1 rfl) ?_
    refine lv_icmp_ge (tgt := 130) hx hb dX5_line_39 (by decide) (fun c_4 => ?_) (fun c_4 => ?_)
    · have hf := hf.1 c_4
      refine lv_bipush (v := 10) hx hb dX5_line_130 (by decide) ?_
      refine lv_iload_n hx hb dX5_line_132 rfl (lv_at hl 2 rfl) ?_
      refine lv_imul hx hb dX5_line_133 ?_
      refine lv_iload_n hx hb dX5_line_134 rfl (lv_at hl 3 rfl) ?_
      refine lv_iadd hx hb dX5_line_135 ?_
      exact W.iret (v := ((10 * x2) + x3)) hx hb hr (fun t ht hW => ⟨⟨((10 * x2) + x3), be, rfl, hf, xHp ht hP⟩, hS.F ht⟩) hS.2.2 dX5_line_136 hlocks
    · have hf := hf.2 c_4
      refine lv_iload_n hx hb dX5_line_42 rfl (lv_at hl 3 rfl) ?_
      refine lv_aload_n hx hb dX5_line_43 rfl (lv_at hl 0 rfl) ?_
      refine va_get (D := D) (ci := 5) (C := RX5) (T := TX5) (N := 22) hx hb hts in_X5_line_X5 hown hG.1 hP 0 rfl rfl 1 (by decide) (hts _ lk_X5_line_13) (fun _ h9 => h9) rfl dX5_line_44 ?_
      refine lv_iconst (v := 1) hx hb dX5_line_47 (by decide) ?_
      refine lv_isub hx hb dX5_line_48 ?_
      refine lv_icmp_eq (tgt := 91) hx hb dX5_line_49 (by decide) (fun c_5 => ?_) (fun c_5 => ?_)
      · have hf := hf.1 c_5
        exact k_X5_line_91 C0 hG ih be x2 x3 x4 _ _ _ hf hP hD hS (lv_sub hl [0, 1, 2, 3, 4] rfl)
      · have hf := hf.2 c_5
        refine lv_iload_n hx hb dX5_line_52 rfl (lv_at hl 2 rfl) ?_
        refine lv_aload_n hx hb dX5_line_53 rfl (lv_at hl 0 rfl) ?_
        refine va_get (D := D) (ci := 5) (C := RX5) (T := TX5) (N := 22) hx hb hts in_X5_line_X5 hown hG.1 hP 0 rfl rfl 0 (by decide) (hts _ lk_X5_line_7) (fun _ h9 => h9) rfl dX5_line_54 ?_
        refine lv_iconst (v := 1) hx hb dX5_line_57 (by decide) ?_
        refine lv_isub hx hb dX5_line_58 ?_
        refine lv_icmp_ge (tgt := 95) hx hb dX5_line_59 (by decide) (fun c_8 => ?_) (fun c_8 => ?_)
        · have hf := hf.1 c_8
          exact k_X5_line_95 C0 hG ih be x2 x3 x4 _ _ _ hf hP hD hS (lv_sub hl [0, 1, 2, 3, 4] rfl)
        · have hf := hf.2 c_8
          refine lv_aload_n hx hb dX5_line_62 rfl (lv_at hl 0 rfl) ?_
          refine va_get (D := D) (ci := 5) (C := RX5) (T := TX5) (N := 22) hx hb hts in_X5_line_X5 hown hG.1 hP 0 rfl rfl 6 (by decide) (hts _ lk_X5_line_29) (fun _ h9 => h9) rfl dX5_line_63 ?_
          refine lv_bipush (v := 6) hx hb dX5_line_66 (by decide) ?_
          refine lv_iload_n hx hb dX5_line_68 rfl (lv_at hl 2 rfl) ?_
          refine lv_iconst (v := 1) hx hb dX5_line_69 (by decide) ?_
          refine lv_iadd hx hb dX5_line_70 ?_
          refine lv_imul hx hb dX5_line_71 ?_
          refine lv_iload_n hx hb dX5_line_72 rfl (lv_at hl 3 rfl) ?_
          refine lv_iadd hx hb dX5_line_73 ?_
          obtain ⟨h_9, hf⟩ := hf
          refine va_iald hx hb hG.1 hP 5 0 rfl rfl h_9 dX5_line_74 ?_
          refine lv_aload_n hx hb dX5_line_75 rfl (lv_at hl 0 rfl) ?_
          refine va_get (D := D) (ci := 5) (C := RX5) (T := TX5) (N := 22) hx hb hts in_X5_line_X5 hown hG.1 hP 0 rfl rfl 6 (by decide) (hts _ lk_X5_line_29) (fun _ h9 => h9) rfl dX5_line_76 ?_
          refine lv_bipush (v := 6) hx hb dX5_line_79 (by decide) ?_
          refine lv_iload_n hx hb dX5_line_81 rfl (lv_at hl 2 rfl) ?_
          refine lv_imul hx hb dX5_line_82 ?_
          refine lv_iload_n hx hb dX5_line_83 rfl (lv_at hl 3 rfl) ?_
          refine lv_iadd hx hb dX5_line_84 ?_
          refine lv_iconst (v := 1) hx hb dX5_line_85 (by decide) ?_
          refine lv_iadd hx hb dX5_line_86 ?_
          obtain ⟨h_10, hf⟩ := hf
          refine va_iald hx hb hG.1 hP 5 0 rfl rfl h_10 dX5_line_87 ?_
          refine lv_icmp_ge (tgt := 95) hx hb dX5_line_88 (by decide) (fun c_11 => ?_) (fun c_11 => ?_)
          · have hf := hf.1 c_11
            exact k_X5_line_95 C0 hG ih be x2 x3 x4 _ _ _ hf hP hD hS (lv_sub hl [0, 1, 2, 3, 4] rfl)
          · have hf := hf.2 c_11
            exact k_X5_line_91 C0 hG ih be x2 x3 x4 _ _ _ hf hP hD hS (lv_sub hl [0, 1, 2, 3, 4] rfl)
set_option maxHeartbeats 4000000 in
set_option maxRecDepth 100000 in
theorem c_X5_line {l : Launch} {D : va_G} {k : Nat → ClassId} (a : Nat → Nat) (mm : Int32) (nn : Int32) (we : Nat → Int32) (la : Nat → Int32) (si : Nat → Int32) (it : Nat → Int32) (be : Nat → Int32) (pa : Nat → Int32) (su : Nat → Int64) (wo : Nat → Int32) (le : Int32) (pp : Nat → Int32) (qq : Nat → Int32) (ro : Nat → Int32) (lo : Nat → Int32) (lp : Nat → Int32) (lq : Nat → Int32) (rp : Nat → Int32) (rq : Nat → Int32) (se : Nat → Int32) (no : Nat → Int64) (ne : Nat → Int64) (x1 : Int32) {post : Int32 → (Nat → Int32) → Prop} (hf : p_X5_line mm nn we be x1 post) : ctI l yX5_line wsX5_line ({ frames := 2, cells := 0, slots := 0, locals := 47 }) D k [.ref (a 0), .int x1] (wM k a mm nn we la si it be pa su wo le pp qq ro lo lp lq rp rq se no ne) (fun u : (Nat → Int32) => wM k a mm nn we la si it u pa su wo le pp qq ro lo lp lq rp rq se no ne) (fun (r : Int32) (u : (Nat → Int32)) => post r u) := by
  refine Met.ofW (cc := cX5_line) (maxL := 6) (ret := (some .int)) (by decide) rfl ?_
  intro p e s m args below meth c s₁ B hml hv
  obtain ⟨rfl, hP, hG, hD0⟩ := hv
  have C0 : xM p s m ([.ref (a 0), .int x1] : List Value).toArray meth c cX5_line 6 RX5 (some .int) wsX5_line := ⟨B.exec, B.bytes, B.returns, atoms_spec (ws := wsX5_line) B.pre, findClass_of_methodNamed B.named, B.notSynchronized, hml⟩
  obtain ⟨hx, hb, hr, hts, hown, hlocks, hml⟩ := id C0
  have hD := xSelf hD0
  have hS : va_S (xIn (wM k a mm nn we la si it be pa su wo le pp qq ro lo lp lq rp rq se no ne)) s.heap s.heap [] := va_S.rf
  generalize xIn (wM k a mm nn we la si it be pa su wo le pp qq ro lo lp lq rp rq se no ne) = A at hD hS ⊢
  have hl := lv_entry ([.ref (a 0), .int x1]) (n := 6) (Nat.le_of_ble_eq_true rfl)
  rw [lg_entry_eq]
  generalize (lg_sl ([.ref (a 0), .int x1]) ++ List.replicate (6 - (lg_sl ([.ref (a 0), .int x1])).length) Slot.unset).toArray = ls at hl ⊢
  have hl : lv_has ls 6 [(0, .ref (a 0)), (1, .int x1)] := hl
  unfold p_X5_line at hf
  refine lv_iload_n hx hb dX5_line_0 rfl (lv_at hl 1 rfl) ?_
  refine lv_i2l (v := x1.toInt64) hx hb dX5_line_1 rfl ?_
  refine lv_lconst (v := 0) hx hb dX5_line_2 (by decide) ?_
  refine lv_aload_n hx hb dX5_line_3 rfl (lv_at hl 0 rfl) ?_
  refine va_get (D := D) (ci := 5) (C := RX5) (T := TX5) (N := 22) hx hb hts in_X5_line_X5 hown hG.1 hP 0 rfl rfl 0 (by decide) (hts _ lk_X5_line_7) (fun _ h9 => h9) rfl dX5_line_4 ?_
  refine lv_aload_n hx hb dX5_line_7 rfl (lv_at hl 0 rfl) ?_
  refine va_get (D := D) (ci := 5) (C := RX5) (T := TX5) (N := 22) hx hb hts in_X5_line_X5 hown hG.1 hP 0 rfl rfl 1 (by decide) (hts _ lk_X5_line_13) (fun _ h9 => h9) rfl dX5_line_8 ?_
  refine lv_iadd hx hb dX5_line_11 ?_
  refine lv_iconst (v := 2) hx hb dX5_line_12 (by decide) ?_
  refine lv_isub hx hb dX5_line_13 ?_
  refine lv_i2l (v := ((mm + nn) - 2).toInt64) hx hb dX5_line_14 rfl ?_
  have hp : xPerm (wM k a mm nn we la si it be pa su wo le pp qq ro lo lp lq rp rq se no ne) (([]) ++ (wM k a mm nn we la si it be pa su wo le pp qq ro lo lp lq rp rq se no ne)) := (List.Perm.refl _)
  refine xCallI (w := []) (r := wM k a mm nn we la si it be pa su wo le pp qq ro lo lp lq rp rq se no ne) (va_runS (As := [.long (x1.toInt64), .long 0, .long (((mm + nn) - 2).toInt64)]) (rest := []) ⟨hx, hb, hml, hown, hts⟩ (c_X5_in (x1.toInt64) 0 (((mm + nn) - 2).toInt64) hf) (va_cwS 3 hts gX5_line_X5_in rfl rfl rfl (by decide +kernel) ⟨Nat.le_of_ble_eq_true rfl, Nat.le_of_ble_eq_true rfl⟩) (xPreS hG hP hD hp) rfl rfl hl.1 rfl (lv_room (Nat.le_of_ble_eq_true rfl)) dX5_line_15 ⟨Nat.zero_le _, Nat.zero_le _⟩) hP hD hS hp (fun _ => rfl) (fun r_1 _ H locs hf hP hD hS => ?_)
  have hP : va_P D vwCl (wM k a mm nn we la si it be pa su wo le pp qq ro lo lp lq rp rq se no ne) H := hP
  have hD : va_D A (wM k a mm nn we la si it be pa su wo le pp qq ro lo lp lq rp rq se no ne) := hD
  refine lv_if_ne (tgt := 23) hx hb dX5_line_18 (by decide) (fun c_2 => ?_) (fun c_2 => ?_)
  · have hf := hf.2 c_2
    refine lv_aload_n hx hb dX5_line_23 rfl (lv_at hl 0 rfl) ?_
    refine lv_iconst (v := 0) hx hb dX5_line_24 (by decide) ?_
    refine lv_iconst (v := 0) hx hb dX5_line_25 (by decide) ?_
    have hp : xPerm (wM k a mm nn we la si it be pa su wo le pp qq ro lo lp lq rp rq se no ne) ((wM k a mm nn we la si it be pa su wo le pp qq ro lo lp lq rp rq se no ne) ++ ([])) := xPermNil
    refine xCallV (w := wM k a mm nn we la si it be pa su wo le pp qq ro lo lp lq rp rq se no ne) (r := []) (va_runV (As := [.int 0, .int 0]) (rest := []) ⟨hx, hb, hml, hown, hts⟩ (c_X5_findBest a mm nn we la si it be pa su wo le pp qq ro lo lp lq rp rq se no ne 0 0 hf) (cwV 2 hts gX5_line_X5_findBest rfl rfl rfl (by decide +kernel) ⟨Nat.le_of_ble_eq_true rfl, Nat.le_of_ble_eq_true rfl⟩) (xPreV hG hP hD hp (ci := 5) rfl (i := 0) rfl) rfl rfl hl.1 rfl (lv_room (Nat.le_of_ble_eq_true rfl)) dX5_line_26 ⟨Nat.zero_le _, Nat.zero_le _⟩) hP hD hS hp (fun _ => rfl) (fun be_3 H locs hf hP hD hS => ?_)
    have hP : va_P D vwCl (wM k a mm nn we la si it be_3 pa su wo le pp qq ro lo lp lq rp rq se no ne) H := xNilP hP
    have hD : va_D A (wM k a mm nn we la si it be_3 pa su wo le pp qq ro lo lp lq rp rq se no ne) := xNilD hD
    refine lv_iconst (v := 0) hx hb dX5_line_29 (by decide) ?_
    refine lv_istore_n (lv' := [(2, .int 0), (0, .ref (a 0)), (1, .int x1)]) hx hb dX5_line_30 rfl hl (by decide) rfl (fun ls hl => ?_)
    refine lv_iconst (v := 0) hx hb dX5_line_31 (by decide) ?_
    refine lv_istore_n (lv' := [(3, .int 0), (2, .int 0), (0, .ref (a 0)), (1, .int x1)]) hx hb dX5_line_32 rfl hl (by decide) rfl (fun ls hl => ?_)
    refine lv_iconst (v := 0) hx hb dX5_line_33 (by decide) ?_
    refine lv_istore (lv' := [(4, .int 0), (3, .int 0), (2, .int 0), (0, .ref (a 0)), (1, .int x1)]) hx hb dX5_line_34 hl (by decide) rfl (fun ls hl => ?_)
    obtain ⟨n_12, hf⟩ := hf
    exact k_X5_line_36 C0 hG n_12 be_3 0 0 0 _ _ _ hf hP hD hS (lv_sub hl [3, 4, 2, 1, 0] rfl)
  · have hf := hf.1 c_2
    refine lv_iconst (v := (-1)) hx hb dX5_line_21 (by decide) ?_
    exact W.iret (v := (-1)) hx hb hr (fun t ht hW => ⟨⟨((-1) : Int32), be, rfl, hf, xHp ht hP⟩, hS.F ht⟩) hS.2.2 dX5_line_22 hlocks

def p_X5_letter (wo : Nat → Int32) (le : Int32) (x1 : Int32) (post : Int32 → (Nat → Int32) → Int32 → Prop) : Prop := p_X5_in (x1.toInt64) 1 9 (fun r_1 => ((r_1 = 0 → post (-1) wo le) ∧ (¬ r_1 = 0 → ((le = 40 → post (-3) wo le) ∧ (¬ le = 40 → (vp_in le 40 ∧ post (le + 1) (upd wo (le.toNatClampNeg) x1) (le + 1)))))))
theorem in_X5_letter_X5 : ∀ w ∈ u_ws RX5 TX5 22, w ∈ wsX5_letter := by decide +kernel
theorem lk_X5_letter_110 : Cond.fieldLink RX5 110 "GrowingCornersModel" "letters" "I" ∈ wsX5_letter := by decide +kernel
theorem lk_X5_letter_39 : Cond.fieldLink RX5 39 "GrowingCornersModel" "word" "[I" ∈ wsX5_letter := by decide +kernel
theorem mb_X5_letter_cl108 : Cond.constantLong RX5 108 (9) ∈ wsX5_letter := by decide +kernel
set_option maxHeartbeats 4000000 in
set_option maxRecDepth 100000 in
theorem c_X5_letter {l : Launch} {D : va_G} {k : Nat → ClassId} (a : Nat → Nat) (mm : Int32) (nn : Int32) (we : Nat → Int32) (la : Nat → Int32) (si : Nat → Int32) (it : Nat → Int32) (be : Nat → Int32) (pa : Nat → Int32) (su : Nat → Int64) (wo : Nat → Int32) (le : Int32) (pp : Nat → Int32) (qq : Nat → Int32) (ro : Nat → Int32) (lo : Nat → Int32) (lp : Nat → Int32) (lq : Nat → Int32) (rp : Nat → Int32) (rq : Nat → Int32) (se : Nat → Int32) (no : Nat → Int64) (ne : Nat → Int64) (x1 : Int32) {post : Int32 → (Nat → Int32) → Int32 → Prop} (hf : p_X5_letter wo le x1 post) : ctI l yX5_letter wsX5_letter ({ frames := 1, cells := 0, slots := 0, locals := 25 }) D k [.ref (a 0), .int x1] (wM k a mm nn we la si it be pa su wo le pp qq ro lo lp lq rp rq se no ne) (fun u : (Nat → Int32) × Int32 => wM k a mm nn we la si it be pa su (u.1) (u.2) pp qq ro lo lp lq rp rq se no ne) (fun (r : Int32) (u : (Nat → Int32) × Int32) => post r u.1 u.2) := by
  refine Met.ofW (cc := cX5_letter) (maxL := 2) (ret := (some .int)) (by decide) rfl ?_
  intro p e s m args below meth c s₁ B hml hv
  obtain ⟨rfl, hP, hG, hD0⟩ := hv
  have C0 : xM p s m ([.ref (a 0), .int x1] : List Value).toArray meth c cX5_letter 2 RX5 (some .int) wsX5_letter := ⟨B.exec, B.bytes, B.returns, atoms_spec (ws := wsX5_letter) B.pre, findClass_of_methodNamed B.named, B.notSynchronized, hml⟩
  obtain ⟨hx, hb, hr, hts, hown, hlocks, hml⟩ := id C0
  have hD := xSelf hD0
  have hS : va_S (xIn (wM k a mm nn we la si it be pa su wo le pp qq ro lo lp lq rp rq se no ne)) s.heap s.heap [] := va_S.rf
  generalize xIn (wM k a mm nn we la si it be pa su wo le pp qq ro lo lp lq rp rq se no ne) = A at hD hS ⊢
  have hl := lv_entry ([.ref (a 0), .int x1]) (n := 2) (Nat.le_of_ble_eq_true rfl)
  rw [lg_entry_eq]
  generalize (lg_sl ([.ref (a 0), .int x1]) ++ List.replicate (2 - (lg_sl ([.ref (a 0), .int x1])).length) Slot.unset).toArray = ls at hl ⊢
  have hl : lv_has ls 2 [(0, .ref (a 0)), (1, .int x1)] := hl
  unfold p_X5_letter at hf
  refine lv_iload_n hx hb dX5_letter_0 rfl (lv_at hl 1 rfl) ?_
  refine lv_i2l (v := x1.toInt64) hx hb dX5_letter_1 rfl ?_
  refine lv_lconst (v := 1) hx hb dX5_letter_2 (by decide) ?_
  refine lv_ldc2 (v := 9) hx hb hown (hts _ mb_X5_letter_cl108) dX5_letter_3 ?_
  have hp : xPerm (wM k a mm nn we la si it be pa su wo le pp qq ro lo lp lq rp rq se no ne) (([]) ++ (wM k a mm nn we la si it be pa su wo le pp qq ro lo lp lq rp rq se no ne)) := (List.Perm.refl _)
  refine xCallI (w := []) (r := wM k a mm nn we la si it be pa su wo le pp qq ro lo lp lq rp rq se no ne) (va_runS (As := [.long (x1.toInt64), .long 1, .long 9]) (rest := []) ⟨hx, hb, hml, hown, hts⟩ (c_X5_in (x1.toInt64) 1 9 hf) (va_cwS 3 hts gX5_letter_X5_in rfl rfl rfl (by decide +kernel) ⟨Nat.le_of_ble_eq_true rfl, Nat.le_of_ble_eq_true rfl⟩) (xPreS hG hP hD hp) rfl rfl hl.1 rfl (lv_room (Nat.le_of_ble_eq_true rfl)) dX5_letter_6 ⟨Nat.zero_le _, Nat.zero_le _⟩) hP hD hS hp (fun _ => rfl) (fun r_1 _ H locs hf hP hD hS => ?_)
  have hP : va_P D vwCl (wM k a mm nn we la si it be pa su wo le pp qq ro lo lp lq rp rq se no ne) H := hP
  have hD : va_D A (wM k a mm nn we la si it be pa su wo le pp qq ro lo lp lq rp rq se no ne) := hD
  refine lv_if_ne (tgt := 14) hx hb dX5_letter_9 (by decide) (fun c_2 => ?_) (fun c_2 => ?_)
  · have hf := hf.2 c_2
    refine lv_aload_n hx hb dX5_letter_14 rfl (lv_at hl 0 rfl) ?_
    refine va_get (D := D) (ci := 5) (C := RX5) (T := TX5) (N := 22) hx hb hts in_X5_letter_X5 hown hG.1 hP 0 rfl rfl 10 (by decide) (hts _ lk_X5_letter_110) (fun _ h9 => h9) rfl dX5_letter_15 ?_
    refine lv_bipush (v := 40) hx hb dX5_letter_18 (by decide) ?_
    refine lv_icmp_ne (tgt := 26) hx hb dX5_letter_20 (by decide) (fun c_3 => ?_) (fun c_3 => ?_)
    · have hf := hf.2 c_3
      refine lv_aload_n hx hb dX5_letter_26 rfl (lv_at hl 0 rfl) ?_
      refine va_get (D := D) (ci := 5) (C := RX5) (T := TX5) (N := 22) hx hb hts in_X5_letter_X5 hown hG.1 hP 0 rfl rfl 9 (by decide) (hts _ lk_X5_letter_39) (fun _ h9 => h9) rfl dX5_letter_27 ?_
      refine lv_aload_n hx hb dX5_letter_30 rfl (lv_at hl 0 rfl) ?_
      refine va_get (D := D) (ci := 5) (C := RX5) (T := TX5) (N := 22) hx hb hts in_X5_letter_X5 hown hG.1 hP 0 rfl rfl 10 (by decide) (hts _ lk_X5_letter_110) (fun _ h9 => h9) rfl dX5_letter_31 ?_
      refine lv_iload_n hx hb dX5_letter_34 rfl (lv_at hl 1 rfl) ?_
      obtain ⟨h_4, hf⟩ := hf
      refine va_iast hx hb hG.1 hP hD hS 8 0 rfl rfl h_4 dX5_letter_35 (fun H locs hP hD hS => ?_)
      have hP : va_P D vwCl (wM k a mm nn we la si it be pa su (upd wo (le.toNatClampNeg) x1) le pp qq ro lo lp lq rp rq se no ne) H := hP
      have hD : va_D A (wM k a mm nn we la si it be pa su (upd wo (le.toNatClampNeg) x1) le pp qq ro lo lp lq rp rq se no ne) := hD
      refine lv_aload_n hx hb dX5_letter_36 rfl (lv_at hl 0 rfl) ?_
      refine lv_dup hx hb dX5_letter_37 rfl ?_
      refine va_get (D := D) (ci := 5) (C := RX5) (T := TX5) (N := 22) hx hb hts in_X5_letter_X5 hown hG.1 hP 0 rfl rfl 10 (by decide) (hts _ lk_X5_letter_110) (fun _ h9 => h9) rfl dX5_letter_38 ?_
      refine lv_iconst (v := 1) hx hb dX5_letter_41 (by decide) ?_
      refine lv_iadd hx hb dX5_letter_42 ?_
      refine va_put (D := D) (ci := 5) (v := .int (le + 1)) (ty := .int) (C := RX5) (T := TX5) (N := 22) hx hb hts in_X5_letter_X5 tyX5 tyX5_ok nmX5 hown hG.1 hP hD hS 0 rfl rfl 10 (by decide) (hts _ lk_X5_letter_110) (fun _ h9 => h9) rfl (by decide +kernel) rfl rfl (Nat.le_of_ble_eq_true rfl) dX5_letter_43 (fun H locs hP hD hS => ?_)
      have hP : va_P D vwCl (wM k a mm nn we la si it be pa su (upd wo (le.toNatClampNeg) x1) (le + 1) pp qq ro lo lp lq rp rq se no ne) H := hP
      have hD : va_D A (wM k a mm nn we la si it be pa su (upd wo (le.toNatClampNeg) x1) (le + 1) pp qq ro lo lp lq rp rq se no ne) := hD
      refine lv_aload_n hx hb dX5_letter_46 rfl (lv_at hl 0 rfl) ?_
      refine va_get (D := D) (ci := 5) (C := RX5) (T := TX5) (N := 22) hx hb hts in_X5_letter_X5 hown hG.1 hP 0 rfl rfl 10 (by decide) (hts _ lk_X5_letter_110) (fun _ h9 => h9) rfl dX5_letter_47 ?_
      exact W.iret (v := (le + 1)) hx hb hr (fun t ht hW => ⟨⟨(le + 1), ((upd wo (le.toNatClampNeg) x1), (le + 1)), rfl, hf, xHp ht hP⟩, hS.F ht⟩) hS.2.2 dX5_letter_50 hlocks
    · have hf := hf.1 c_3
      refine lv_bipush (v := (-3)) hx hb dX5_letter_23 (by decide) ?_
      exact W.iret (v := (-3)) hx hb hr (fun t ht hW => ⟨⟨((-3) : Int32), (wo, le), rfl, hf, xHp ht hP⟩, hS.F ht⟩) hS.2.2 dX5_letter_25 hlocks
  · have hf := hf.1 c_2
    refine lv_iconst (v := (-1)) hx hb dX5_letter_12 (by decide) ?_
    exact W.iret (v := (-1)) hx hb hr (fun t ht hW => ⟨⟨((-1) : Int32), (wo, le), rfl, hf, xHp ht hP⟩, hS.F ht⟩) hS.2.2 dX5_letter_13 hlocks

def p_X5_clear (le : Int32) (post : Int32 → Int32 → Prop) : Prop := post le 0
theorem in_X5_clear_X5 : ∀ w ∈ u_ws RX5 TX5 22, w ∈ wsX5_clear := by decide +kernel
theorem lk_X5_clear_110 : Cond.fieldLink RX5 110 "GrowingCornersModel" "letters" "I" ∈ wsX5_clear := by decide +kernel
set_option maxHeartbeats 4000000 in
set_option maxRecDepth 100000 in
theorem c_X5_clear {l : Launch} {D : va_G} {k : Nat → ClassId} (a : Nat → Nat) (mm : Int32) (nn : Int32) (we : Nat → Int32) (la : Nat → Int32) (si : Nat → Int32) (it : Nat → Int32) (be : Nat → Int32) (pa : Nat → Int32) (su : Nat → Int64) (wo : Nat → Int32) (le : Int32) (pp : Nat → Int32) (qq : Nat → Int32) (ro : Nat → Int32) (lo : Nat → Int32) (lp : Nat → Int32) (lq : Nat → Int32) (rp : Nat → Int32) (rq : Nat → Int32) (se : Nat → Int32) (no : Nat → Int64) (ne : Nat → Int64) {post : Int32 → Int32 → Prop} (hf : p_X5_clear le post) : ctI l yX5_clear wsX5_clear ({ frames := 0, cells := 0, slots := 0, locals := 0 }) D k [.ref (a 0)] (wM k a mm nn we la si it be pa su wo le pp qq ro lo lp lq rp rq se no ne) (fun u : Int32 => wM k a mm nn we la si it be pa su wo u pp qq ro lo lp lq rp rq se no ne) (fun (r : Int32) (u : Int32) => post r u) := by
  refine Met.ofW (cc := cX5_clear) (maxL := 2) (ret := (some .int)) (by decide) rfl ?_
  intro p e s m args below meth c s₁ B hml hv
  obtain ⟨rfl, hP, hG, hD0⟩ := hv
  have C0 : xM p s m ([.ref (a 0)] : List Value).toArray meth c cX5_clear 2 RX5 (some .int) wsX5_clear := ⟨B.exec, B.bytes, B.returns, atoms_spec (ws := wsX5_clear) B.pre, findClass_of_methodNamed B.named, B.notSynchronized, hml⟩
  obtain ⟨hx, hb, hr, hts, hown, hlocks, hml⟩ := id C0
  have hD := xSelf hD0
  have hS : va_S (xIn (wM k a mm nn we la si it be pa su wo le pp qq ro lo lp lq rp rq se no ne)) s.heap s.heap [] := va_S.rf
  generalize xIn (wM k a mm nn we la si it be pa su wo le pp qq ro lo lp lq rp rq se no ne) = A at hD hS ⊢
  have hl := lv_entry ([.ref (a 0)]) (n := 2) (Nat.le_of_ble_eq_true rfl)
  rw [lg_entry_eq]
  generalize (lg_sl ([.ref (a 0)]) ++ List.replicate (2 - (lg_sl ([.ref (a 0)])).length) Slot.unset).toArray = ls at hl ⊢
  have hl : lv_has ls 2 [(0, .ref (a 0))] := hl
  unfold p_X5_clear at hf
  refine lv_aload_n hx hb dX5_clear_0 rfl (lv_at hl 0 rfl) ?_
  refine va_get (D := D) (ci := 5) (C := RX5) (T := TX5) (N := 22) hx hb hts in_X5_clear_X5 hown hG.1 hP 0 rfl rfl 10 (by decide) (hts _ lk_X5_clear_110) (fun _ h9 => h9) rfl dX5_clear_1 ?_
  refine lv_istore_n (lv' := [(1, .int le), (0, .ref (a 0))]) hx hb dX5_clear_4 rfl hl (by decide) rfl (fun ls hl => ?_)
  refine lv_aload_n hx hb dX5_clear_5 rfl (lv_at hl 1 rfl) ?_
  refine lv_iconst (v := 0) hx hb dX5_clear_6 (by decide) ?_
  refine va_put (D := D) (ci := 5) (v := .int 0) (ty := .int) (C := RX5) (T := TX5) (N := 22) hx hb hts in_X5_clear_X5 tyX5 tyX5_ok nmX5 hown hG.1 hP hD hS 0 rfl rfl 10 (by decide) (hts _ lk_X5_clear_110) (fun _ h9 => h9) rfl (by decide +kernel) rfl rfl (Nat.le_of_ble_eq_true rfl) dX5_clear_7 (fun H locs hP hD hS => ?_)
  have hP : va_P D vwCl (wM k a mm nn we la si it be pa su wo 0 pp qq ro lo lp lq rp rq se no ne) H := hP
  have hD : va_D A (wM k a mm nn we la si it be pa su wo 0 pp qq ro lo lp lq rp rq se no ne) := hD
  refine lv_iload_n hx hb dX5_clear_10 rfl (lv_at hl 0 rfl) ?_
  exact W.iret (v := le) hx hb hr (fun t ht hW => ⟨⟨le, 0, rfl, hf, xHp ht hP⟩, hS.F ht⟩) hS.2.2 dX5_clear_11 hlocks

def p_X5_insert_138 (x1 : Int32) (x2 : Int32) (post : (Nat → Int32) → (Nat → Int32) → (Nat → Int32) → Prop) (k8 : (Nat → Int32) → (Nat → Int32) → (Nat → Int32) → Int32 → Int32 → Int32 → Prop) (pp : Nat → Int32) (qq : Nat → Int32) (ro : Nat → Int32) (x4 : Int32) (x5 : Int32) (x7 : Int32) : Prop := k8 pp qq ro x7 (x4 + 1) x5
def p_X5_insert_92 (x1 : Int32) (x2 : Int32) (post : (Nat → Int32) → (Nat → Int32) → (Nat → Int32) → Prop) (k8 : (Nat → Int32) → (Nat → Int32) → (Nat → Int32) → Int32 → Int32 → Int32 → Prop) (pp : Nat → Int32) (qq : Nat → Int32) (ro : Nat → Int32) (x3 : Int32) (x4 : Int32) (x5 : Int32) (x6 : Int32) (s0 : Int32) : Prop := (vp_in ((40 * x4) + x6) 360 ∧ ((x5 = 0 → (vp_in ((40 * x4) + x6) 360 ∧ (vp_in x4 9 ∧ (vp_in x4 9 ∧ p_X5_insert_138 x1 x2 post k8 (upd pp (((40 * x4) + x6).toNatClampNeg) x3) (upd qq (((40 * x4) + x6).toNatClampNeg) x2) (upd ro (x4.toNatClampNeg) ((ro x4.toNatClampNeg) + 1)) x4 x5 s0)))) ∧ (¬ x5 = 0 → p_X5_insert_138 x1 x2 post k8 (upd pp (((40 * x4) + x6).toNatClampNeg) x3) qq ro x4 x5 s0)))
def p_X5_insert_68 (x1 : Int32) (x2 : Int32) (post : (Nat → Int32) → (Nat → Int32) → (Nat → Int32) → Prop) (k8 : (Nat → Int32) → (Nat → Int32) → (Nat → Int32) → Int32 → Int32 → Int32 → Prop) (pp : Nat → Int32) (qq : Nat → Int32) (ro : Nat → Int32) (x3 : Int32) (x4 : Int32) (x6 : Int32) (s0 : Int32) : Prop := ((s0 = 0 → p_X5_insert_92 x1 x2 post k8 pp qq ro x3 x4 s0 x6 0) ∧ (¬ s0 = 0 → (vp_in ((40 * x4) + x6) 360 ∧ p_X5_insert_92 x1 x2 post k8 pp qq ro x3 x4 s0 x6 (pp ((40 * x4) + x6).toNatClampNeg))))
def p_X5_insert_51 (x1 : Int32) (x2 : Int32) (post : (Nat → Int32) → (Nat → Int32) → (Nat → Int32) → Prop) (k8 : (Nat → Int32) → (Nat → Int32) → (Nat → Int32) → Int32 → Int32 → Int32 → Prop) (pp : Nat → Int32) (qq : Nat → Int32) (ro : Nat → Int32) (x3 : Int32) (x4 : Int32) (x6 : Int32) : Prop := (vp_in x4 9 ∧ (((ro x4.toNatClampNeg) ≤ x6 → p_X5_insert_68 x1 x2 post k8 pp qq ro x3 x4 x6 0) ∧ (¬ (ro x4.toNatClampNeg) ≤ x6 → p_X5_insert_68 x1 x2 post k8 pp qq ro x3 x4 x6 1)))
def p_X5_insert_16 (x1 : Int32) (x2 : Int32) (post : (Nat → Int32) → (Nat → Int32) → (Nat → Int32) → Prop) (k8 : (Nat → Int32) → (Nat → Int32) → (Nat → Int32) → Int32 → Int32 → Int32 → Prop) : Nat → (Nat → Int32) → (Nat → Int32) → (Nat → Int32) → Int32 → Int32 → Int32 → Prop
  | 0, _, _, _, _, _, _ => False
  | n + 1, pp, qq, ro, x3, x4, x6 => (vp_in x4 9 ∧ (((ro x4.toNatClampNeg) ≤ x6 → p_X5_insert_51 x1 x2 post k8 pp qq ro x3 x4 x6) ∧ (¬ (ro x4.toNatClampNeg) ≤ x6 → (vp_in ((40 * x4) + x6) 360 ∧ ((x3 < (pp ((40 * x4) + x6).toNatClampNeg) → p_X5_insert_51 x1 x2 post k8 pp qq ro x3 x4 x6) ∧ (¬ x3 < (pp ((40 * x4) + x6).toNatClampNeg) → p_X5_insert_16 x1 x2 post k8 n pp qq ro x3 x4 (x6 + 1)))))))
def p_X5_insert_8 (x1 : Int32) (x2 : Int32) (post : (Nat → Int32) → (Nat → Int32) → (Nat → Int32) → Prop) : Nat → (Nat → Int32) → (Nat → Int32) → (Nat → Int32) → Int32 → Int32 → Int32 → Prop
  | 0, _, _, _, _, _, _ => False
  | n + 1, pp, qq, ro, x3, x4, x5 => ((x5 = 0 → post pp qq ro) ∧ (¬ x5 = 0 → (∃ n_15, p_X5_insert_16 x1 x2 post (fun pp qq ro x3 x4 x5 => p_X5_insert_8 x1 x2 post n pp qq ro x3 x4 x5) n_15 pp qq ro x3 x4 0)))
def p_X5_insert (pp : Nat → Int32) (qq : Nat → Int32) (ro : Nat → Int32) (x1 : Int32) (x2 : Int32) (post : (Nat → Int32) → (Nat → Int32) → (Nat → Int32) → Prop) : Prop := (∃ n_16, p_X5_insert_8 x1 x2 post n_16 pp qq ro x1 0 1)
theorem in_X5_insert_X5 : ∀ w ∈ u_ws RX5 TX5 22, w ∈ wsX5_insert := by decide +kernel
theorem lk_X5_insert_42 : Cond.fieldLink RX5 42 "GrowingCornersModel" "p" "[I" ∈ wsX5_insert := by decide +kernel
theorem lk_X5_insert_45 : Cond.fieldLink RX5 45 "GrowingCornersModel" "q" "[I" ∈ wsX5_insert := by decide +kernel
theorem lk_X5_insert_48 : Cond.fieldLink RX5 48 "GrowingCornersModel" "rows" "[I" ∈ wsX5_insert := by decide +kernel
set_option maxHeartbeats 4000000 in
set_option maxRecDepth 100000 in
theorem k_X5_insert_138 {p : Program} {l : Launch} {e : Env} {s : State} {m : MethodId} {args : Array Value} {below : List Frame} {meth : Method} {c : Code} {A : Nat → Prop} {D : va_G} {k : Nat → ClassId} {a : Nat → Nat} {mm : Int32} {nn : Int32} {we : Nat → Int32} {la : Nat → Int32} {si : Nat → Int32} {it : Nat → Int32} {be : Nat → Int32} {pa : Nat → Int32} {su : Nat → Int64} {wo : Nat → Int32} {le : Int32} {lo : Nat → Int32} {lp : Nat → Int32} {lq : Nat → Int32} {rp : Nat → Int32} {rq : Nat → Int32} {se : Nat → Int32} {no : Nat → Int64} {ne : Nat → Int64} {x1 : Int32} {x2 : Int32} (C0 : xM p s m args meth c cX5_insert 8 RX5 none wsX5_insert) (hG : xG D k s) {post : (Nat → Int32) → (Nat → Int32) → (Nat → Int32) → Prop} {k8 : (Nat → Int32) → (Nat → Int32) → (Nat → Int32) → Int32 → Int32 → Int32 → Prop} (hk8 : ∀ (pp : Nat → Int32) (qq : Nat → Int32) (ro : Nat → Int32) (x3 : Int32) (x4 : Int32) (x5 : Int32) (H : Heap) (locs : List Loc) (ls : Array Slot), k8 pp qq ro x3 x4 x5 → va_P D vwCl (wM k a mm nn we la si it be pa su wo le pp qq ro lo lp lq rp rq se no ne) H → va_D A (wM k a mm nn we la si it be pa su wo le pp qq ro lo lp lq rp rq se no ne) → va_S A s.heap H locs → lv_has ls 8 [(0, .ref (a 0)), (2, .int x2), (3, .int x3), (4, .int x4), (5, .int x5)] → W p l e ({ frames := 0, cells := 0, slots := 0, locals := 0 }) s m args below meth c H locs 0 0 (MQ below (va_Qv (fun (u : (Nat → Int32) × (Nat → Int32) × (Nat → Int32)) => post u.1 u.2.1 u.2.2) (fun u t => va_P D vwCl (wM k a mm nn we la si it be pa su wo le (u.1) (u.2.1) (u.2.2) lo lp lq rp rq se no ne) t.heap) A) args s 0 0 A) (F0 m 8 ls [])) : ∀ (pp : Nat → Int32) (qq : Nat → Int32) (ro : Nat → Int32) (x4 : Int32) (x5 : Int32) (x7 : Int32) (H : Heap) (locs : List Loc) (ls : Array Slot), p_X5_insert_138 x1 x2 post k8 pp qq ro x4 x5 x7 → va_P D vwCl (wM k a mm nn we la si it be pa su wo le pp qq ro lo lp lq rp rq se no ne) H → va_D A (wM k a mm nn we la si it be pa su wo le pp qq ro lo lp lq rp rq se no ne) → va_S A s.heap H locs → lv_has ls 8 [(0, .ref (a 0)), (2, .int x2), (4, .int x4), (5, .int x5), (7, .int x7)] → W p l e ({ frames := 0, cells := 0, slots := 0, locals := 0 }) s m args below meth c H locs 0 0 (MQ below (va_Qv (fun (u : (Nat → Int32) × (Nat → Int32) × (Nat → Int32)) => post u.1 u.2.1 u.2.2) (fun u t => va_P D vwCl (wM k a mm nn we la si it be pa su wo le (u.1) (u.2.1) (u.2.2) lo lp lq rp rq se no ne) t.heap) A) args s 0 0 A) (F0 m 138 ls []) := by
  obtain ⟨hx, hb, hr, hts, hown, hlocks, hml⟩ := id C0
  intro pp qq ro x4 x5 x7 H locs ls hf hP hD hS hl
  unfold p_X5_insert_138 at hf
  refine lv_iload hx hb dX5_insert_138 (lv_at hl 4 rfl) ?_
  refine lv_istore_n (lv' := [(3, .int x7), (0, .ref (a 0)), (2, .int x2), (4, .int x4), (5, .int x5), (7, .int x7)]) hx hb dX5_insert_140 rfl hl (by decide) rfl (fun ls hl => ?_)
  refine lv_iinc (v := x4 + 1) (lv' := [(4, .int (x4 + 1)), (3, .int x7), (0, .ref (a 0)), (2, .int x2), (5, .int x5), (7, .int x7)]) hx hb dX5_insert_141 hl (k := 3) rfl rfl (by decide) rfl (fun ls hl => ?_)
  refine lv_goto (tgt := 8) hx hb dX5_insert_144 (by decide) ?_
  exact hk8 pp qq ro x7 (x4 + 1) x5 _ _ _ hf hP hD hS (lv_sub hl [2, 3, 1, 0, 4] rfl)
set_option maxHeartbeats 4000000 in
set_option maxRecDepth 100000 in
theorem k_X5_insert_92 {p : Program} {l : Launch} {e : Env} {s : State} {m : MethodId} {args : Array Value} {below : List Frame} {meth : Method} {c : Code} {A : Nat → Prop} {D : va_G} {k : Nat → ClassId} {a : Nat → Nat} {mm : Int32} {nn : Int32} {we : Nat → Int32} {la : Nat → Int32} {si : Nat → Int32} {it : Nat → Int32} {be : Nat → Int32} {pa : Nat → Int32} {su : Nat → Int64} {wo : Nat → Int32} {le : Int32} {lo : Nat → Int32} {lp : Nat → Int32} {lq : Nat → Int32} {rp : Nat → Int32} {rq : Nat → Int32} {se : Nat → Int32} {no : Nat → Int64} {ne : Nat → Int64} {x1 : Int32} {x2 : Int32} (C0 : xM p s m args meth c cX5_insert 8 RX5 none wsX5_insert) (hG : xG D k s) {post : (Nat → Int32) → (Nat → Int32) → (Nat → Int32) → Prop} {k8 : (Nat → Int32) → (Nat → Int32) → (Nat → Int32) → Int32 → Int32 → Int32 → Prop} (hk8 : ∀ (pp : Nat → Int32) (qq : Nat → Int32) (ro : Nat → Int32) (x3 : Int32) (x4 : Int32) (x5 : Int32) (H : Heap) (locs : List Loc) (ls : Array Slot), k8 pp qq ro x3 x4 x5 → va_P D vwCl (wM k a mm nn we la si it be pa su wo le pp qq ro lo lp lq rp rq se no ne) H → va_D A (wM k a mm nn we la si it be pa su wo le pp qq ro lo lp lq rp rq se no ne) → va_S A s.heap H locs → lv_has ls 8 [(0, .ref (a 0)), (2, .int x2), (3, .int x3), (4, .int x4), (5, .int x5)] → W p l e ({ frames := 0, cells := 0, slots := 0, locals := 0 }) s m args below meth c H locs 0 0 (MQ below (va_Qv (fun (u : (Nat → Int32) × (Nat → Int32) × (Nat → Int32)) => post u.1 u.2.1 u.2.2) (fun u t => va_P D vwCl (wM k a mm nn we la si it be pa su wo le (u.1) (u.2.1) (u.2.2) lo lp lq rp rq se no ne) t.heap) A) args s 0 0 A) (F0 m 8 ls [])) : ∀ (pp : Nat → Int32) (qq : Nat → Int32) (ro : Nat → Int32) (x3 : Int32) (x4 : Int32) (x5 : Int32) (x6 : Int32) (s0 : Int32) (H : Heap) (locs : List Loc) (ls : Array Slot), p_X5_insert_92 x1 x2 post k8 pp qq ro x3 x4 x5 x6 s0 → va_P D vwCl (wM k a mm nn we la si it be pa su wo le pp qq ro lo lp lq rp rq se no ne) H → va_D A (wM k a mm nn we la si it be pa su wo le pp qq ro lo lp lq rp rq se no ne) → va_S A s.heap H locs → lv_has ls 8 [(0, .ref (a 0)), (2, .int x2), (3, .int x3), (4, .int x4), (5, .int x5), (6, .int x6)] → W p l e ({ frames := 0, cells := 0, slots := 0, locals := 0 }) s m args below meth c H locs 0 0 (MQ below (va_Qv (fun (u : (Nat → Int32) × (Nat → Int32) × (Nat → Int32)) => post u.1 u.2.1 u.2.2) (fun u t => va_P D vwCl (wM k a mm nn we la si it be pa su wo le (u.1) (u.2.1) (u.2.2) lo lp lq rp rq se no ne) t.heap) A) args s 0 0 A) (F0 m 92 ls [.int s0]) := by
  obtain ⟨hx, hb, hr, hts, hown, hlocks, hml⟩ := id C0
  intro pp qq ro x3 x4 x5 x6 s0 H locs ls hf hP hD hS hl
  unfold p_X5_insert_92 at hf
  refine lv_istore (lv' := [(7, .int s0), (0, .ref (a 0)), (2, .int x2), (3, .int x3), (4, .int x4), (5, .int x5), (6, .int x6)]) hx hb dX5_insert_92 hl (by decide) rfl (fun ls hl => ?_)
  refine lv_aload_n hx hb dX5_insert_94 rfl (lv_at hl 1 rfl) ?_
  refine va_get (D := D) (ci := 5) (C := RX5) (T := TX5) (N := 22) hx hb hts in_X5_insert_X5 hown hG.1 hP 0 rfl rfl 11 (by decide) (hts _ lk_X5_insert_42) (fun _ h9 => h9) rfl dX5_insert_95 ?_
  refine lv_bipush (v := 40) hx hb dX5_insert_98 (by decide) ?_
  refine lv_iload hx hb dX5_insert_100 (lv_at hl 4 rfl) ?_
  refine lv_imul hx hb dX5_insert_102 ?_
  refine lv_iload hx hb dX5_insert_103 (lv_at hl 6 rfl) ?_
  refine lv_iadd hx hb dX5_insert_105 ?_
  refine lv_iload_n hx hb dX5_insert_106 rfl (lv_at hl 3 rfl) ?_
  obtain ⟨h_7, hf⟩ := hf
  refine va_iast hx hb hG.1 hP hD hS 9 0 rfl rfl h_7 dX5_insert_107 (fun H locs hP hD hS => ?_)
  have hP : va_P D vwCl (wM k a mm nn we la si it be pa su wo le (upd pp (((40 * x4) + x6).toNatClampNeg) x3) qq ro lo lp lq rp rq se no ne) H := hP
  have hD : va_D A (wM k a mm nn we la si it be pa su wo le (upd pp (((40 * x4) + x6).toNatClampNeg) x3) qq ro lo lp lq rp rq se no ne) := hD
  refine lv_iload hx hb dX5_insert_108 (lv_at hl 5 rfl) ?_
  refine lv_if_ne (tgt := 138) hx hb dX5_insert_110 (by decide) (fun c_8 => ?_) (fun c_8 => ?_)
  · have hf := hf.2 c_8
    exact k_X5_insert_138 C0 hG hk8 (upd pp (((40 * x4) + x6).toNatClampNeg) x3) qq ro x4 x5 s0 _ _ _ hf hP hD hS (lv_sub hl [1, 2, 4, 5, 0] rfl)
  · have hf := hf.1 c_8
    refine lv_aload_n hx hb dX5_insert_113 rfl (lv_at hl 1 rfl) ?_
    refine va_get (D := D) (ci := 5) (C := RX5) (T := TX5) (N := 22) hx hb hts in_X5_insert_X5 hown hG.1 hP 0 rfl rfl 12 (by decide) (hts _ lk_X5_insert_45) (fun _ h9 => h9) rfl dX5_insert_114 ?_
    refine lv_bipush (v := 40) hx hb dX5_insert_117 (by decide) ?_
    refine lv_iload hx hb dX5_insert_119 (lv_at hl 4 rfl) ?_
    refine lv_imul hx hb dX5_insert_121 ?_
    refine lv_iload hx hb dX5_insert_122 (lv_at hl 6 rfl) ?_
    refine lv_iadd hx hb dX5_insert_124 ?_
    refine lv_iload_n hx hb dX5_insert_125 rfl (lv_at hl 2 rfl) ?_
    obtain ⟨h_9, hf⟩ := hf
    refine va_iast hx hb hG.1 hP hD hS 10 0 rfl rfl h_9 dX5_insert_126 (fun H locs hP hD hS => ?_)
    have hP : va_P D vwCl (wM k a mm nn we la si it be pa su wo le (upd pp (((40 * x4) + x6).toNatClampNeg) x3) (upd qq (((40 * x4) + x6).toNatClampNeg) x2) ro lo lp lq rp rq se no ne) H := hP
    have hD : va_D A (wM k a mm nn we la si it be pa su wo le (upd pp (((40 * x4) + x6).toNatClampNeg) x3) (upd qq (((40 * x4) + x6).toNatClampNeg) x2) ro lo lp lq rp rq se no ne) := hD
    refine lv_aload_n hx hb dX5_insert_127 rfl (lv_at hl 1 rfl) ?_
    refine va_get (D := D) (ci := 5) (C := RX5) (T := TX5) (N := 22) hx hb hts in_X5_insert_X5 hown hG.1 hP 0 rfl rfl 13 (by decide) (hts _ lk_X5_insert_48) (fun _ h9 => h9) rfl dX5_insert_128 ?_
    refine lv_iload hx hb dX5_insert_131 (lv_at hl 4 rfl) ?_
    refine lv_dup2_11 hx hb dX5_insert_133 rfl rfl ?_
    obtain ⟨h_10, hf⟩ := hf
    refine va_iald hx hb hG.1 hP 11 0 rfl rfl h_10 dX5_insert_134 ?_
    refine lv_iconst (v := 1) hx hb dX5_insert_135 (by decide) ?_
    refine lv_iadd hx hb dX5_insert_136 ?_
    obtain ⟨h_11, hf⟩ := hf
    refine va_iast hx hb hG.1 hP hD hS 11 0 rfl rfl h_11 dX5_insert_137 (fun H locs hP hD hS => ?_)
    have hP : va_P D vwCl (wM k a mm nn we la si it be pa su wo le (upd pp (((40 * x4) + x6).toNatClampNeg) x3) (upd qq (((40 * x4) + x6).toNatClampNeg) x2) (upd ro (x4.toNatClampNeg) ((ro x4.toNatClampNeg) + 1)) lo lp lq rp rq se no ne) H := hP
    have hD : va_D A (wM k a mm nn we la si it be pa su wo le (upd pp (((40 * x4) + x6).toNatClampNeg) x3) (upd qq (((40 * x4) + x6).toNatClampNeg) x2) (upd ro (x4.toNatClampNeg) ((ro x4.toNatClampNeg) + 1)) lo lp lq rp rq se no ne) := hD
    exact k_X5_insert_138 C0 hG hk8 (upd pp (((40 * x4) + x6).toNatClampNeg) x3) (upd qq (((40 * x4) + x6).toNatClampNeg) x2) (upd ro (x4.toNatClampNeg) ((ro x4.toNatClampNeg) + 1)) x4 x5 s0 _ _ _ hf hP hD hS (lv_sub hl [1, 2, 4, 5, 0] rfl)
set_option maxHeartbeats 4000000 in
set_option maxRecDepth 100000 in
theorem k_X5_insert_68 {p : Program} {l : Launch} {e : Env} {s : State} {m : MethodId} {args : Array Value} {below : List Frame} {meth : Method} {c : Code} {A : Nat → Prop} {D : va_G} {k : Nat → ClassId} {a : Nat → Nat} {mm : Int32} {nn : Int32} {we : Nat → Int32} {la : Nat → Int32} {si : Nat → Int32} {it : Nat → Int32} {be : Nat → Int32} {pa : Nat → Int32} {su : Nat → Int64} {wo : Nat → Int32} {le : Int32} {lo : Nat → Int32} {lp : Nat → Int32} {lq : Nat → Int32} {rp : Nat → Int32} {rq : Nat → Int32} {se : Nat → Int32} {no : Nat → Int64} {ne : Nat → Int64} {x1 : Int32} {x2 : Int32} (C0 : xM p s m args meth c cX5_insert 8 RX5 none wsX5_insert) (hG : xG D k s) {post : (Nat → Int32) → (Nat → Int32) → (Nat → Int32) → Prop} {k8 : (Nat → Int32) → (Nat → Int32) → (Nat → Int32) → Int32 → Int32 → Int32 → Prop} (hk8 : ∀ (pp : Nat → Int32) (qq : Nat → Int32) (ro : Nat → Int32) (x3 : Int32) (x4 : Int32) (x5 : Int32) (H : Heap) (locs : List Loc) (ls : Array Slot), k8 pp qq ro x3 x4 x5 → va_P D vwCl (wM k a mm nn we la si it be pa su wo le pp qq ro lo lp lq rp rq se no ne) H → va_D A (wM k a mm nn we la si it be pa su wo le pp qq ro lo lp lq rp rq se no ne) → va_S A s.heap H locs → lv_has ls 8 [(0, .ref (a 0)), (2, .int x2), (3, .int x3), (4, .int x4), (5, .int x5)] → W p l e ({ frames := 0, cells := 0, slots := 0, locals := 0 }) s m args below meth c H locs 0 0 (MQ below (va_Qv (fun (u : (Nat → Int32) × (Nat → Int32) × (Nat → Int32)) => post u.1 u.2.1 u.2.2) (fun u t => va_P D vwCl (wM k a mm nn we la si it be pa su wo le (u.1) (u.2.1) (u.2.2) lo lp lq rp rq se no ne) t.heap) A) args s 0 0 A) (F0 m 8 ls [])) : ∀ (pp : Nat → Int32) (qq : Nat → Int32) (ro : Nat → Int32) (x3 : Int32) (x4 : Int32) (x6 : Int32) (s0 : Int32) (H : Heap) (locs : List Loc) (ls : Array Slot), p_X5_insert_68 x1 x2 post k8 pp qq ro x3 x4 x6 s0 → va_P D vwCl (wM k a mm nn we la si it be pa su wo le pp qq ro lo lp lq rp rq se no ne) H → va_D A (wM k a mm nn we la si it be pa su wo le pp qq ro lo lp lq rp rq se no ne) → va_S A s.heap H locs → lv_has ls 8 [(0, .ref (a 0)), (2, .int x2), (3, .int x3), (4, .int x4), (6, .int x6)] → W p l e ({ frames := 0, cells := 0, slots := 0, locals := 0 }) s m args below meth c H locs 0 0 (MQ below (va_Qv (fun (u : (Nat → Int32) × (Nat → Int32) × (Nat → Int32)) => post u.1 u.2.1 u.2.2) (fun u t => va_P D vwCl (wM k a mm nn we la si it be pa su wo le (u.1) (u.2.1) (u.2.2) lo lp lq rp rq se no ne) t.heap) A) args s 0 0 A) (F0 m 68 ls [.int s0]) := by
  obtain ⟨hx, hb, hr, hts, hown, hlocks, hml⟩ := id C0
  intro pp qq ro x3 x4 x6 s0 H locs ls hf hP hD hS hl
  unfold p_X5_insert_68 at hf
  refine lv_istore (lv' := [(5, .int s0), (0, .ref (a 0)), (2, .int x2), (3, .int x3), (4, .int x4), (6, .int x6)]) hx hb dX5_insert_68 hl (by decide) rfl (fun ls hl => ?_)
  refine lv_iload hx hb dX5_insert_70 (lv_at hl 0 rfl) ?_
  refine lv_if_eq (tgt := 91) hx hb dX5_insert_72 (by decide) (fun c_6 => ?_) (fun c_6 => ?_)
  · have hf := hf.1 c_6
    refine lv_iconst (v := 0) hx hb dX5_insert_91 (by decide) ?_
    exact k_X5_insert_92 C0 hG hk8 pp qq ro x3 x4 s0 x6 0 _ _ _ hf hP hD hS (lv_sub hl [1, 2, 3, 4, 0, 5] rfl)
  · have hf := hf.2 c_6
    refine lv_aload_n hx hb dX5_insert_75 rfl (lv_at hl 1 rfl) ?_
    refine va_get (D := D) (ci := 5) (C := RX5) (T := TX5) (N := 22) hx hb hts in_X5_insert_X5 hown hG.1 hP 0 rfl rfl 11 (by decide) (hts _ lk_X5_insert_42) (fun _ h9 => h9) rfl dX5_insert_76 ?_
    refine lv_bipush (v := 40) hx hb dX5_insert_79 (by decide) ?_
    refine lv_iload hx hb dX5_insert_81 (lv_at hl 4 rfl) ?_
    refine lv_imul hx hb dX5_insert_83 ?_
    refine lv_iload hx hb dX5_insert_84 (lv_at hl 5 rfl) ?_
    refine lv_iadd hx hb dX5_insert_86 ?_
    obtain ⟨h_12, hf⟩ := hf
    refine va_iald hx hb hG.1 hP 9 0 rfl rfl h_12 dX5_insert_87 ?_
    refine lv_goto (tgt := 92) hx hb dX5_insert_88 (by decide) ?_
    exact k_X5_insert_92 C0 hG hk8 pp qq ro x3 x4 s0 x6 (pp ((40 * x4) + x6).toNatClampNeg) _ _ _ hf hP hD hS (lv_sub hl [1, 2, 3, 4, 0, 5] rfl)
set_option maxHeartbeats 4000000 in
set_option maxRecDepth 100000 in
theorem k_X5_insert_51 {p : Program} {l : Launch} {e : Env} {s : State} {m : MethodId} {args : Array Value} {below : List Frame} {meth : Method} {c : Code} {A : Nat → Prop} {D : va_G} {k : Nat → ClassId} {a : Nat → Nat} {mm : Int32} {nn : Int32} {we : Nat → Int32} {la : Nat → Int32} {si : Nat → Int32} {it : Nat → Int32} {be : Nat → Int32} {pa : Nat → Int32} {su : Nat → Int64} {wo : Nat → Int32} {le : Int32} {lo : Nat → Int32} {lp : Nat → Int32} {lq : Nat → Int32} {rp : Nat → Int32} {rq : Nat → Int32} {se : Nat → Int32} {no : Nat → Int64} {ne : Nat → Int64} {x1 : Int32} {x2 : Int32} (C0 : xM p s m args meth c cX5_insert 8 RX5 none wsX5_insert) (hG : xG D k s) {post : (Nat → Int32) → (Nat → Int32) → (Nat → Int32) → Prop} {k8 : (Nat → Int32) → (Nat → Int32) → (Nat → Int32) → Int32 → Int32 → Int32 → Prop} (hk8 : ∀ (pp : Nat → Int32) (qq : Nat → Int32) (ro : Nat → Int32) (x3 : Int32) (x4 : Int32) (x5 : Int32) (H : Heap) (locs : List Loc) (ls : Array Slot), k8 pp qq ro x3 x4 x5 → va_P D vwCl (wM k a mm nn we la si it be pa su wo le pp qq ro lo lp lq rp rq se no ne) H → va_D A (wM k a mm nn we la si it be pa su wo le pp qq ro lo lp lq rp rq se no ne) → va_S A s.heap H locs → lv_has ls 8 [(0, .ref (a 0)), (2, .int x2), (3, .int x3), (4, .int x4), (5, .int x5)] → W p l e ({ frames := 0, cells := 0, slots := 0, locals := 0 }) s m args below meth c H locs 0 0 (MQ below (va_Qv (fun (u : (Nat → Int32) × (Nat → Int32) × (Nat → Int32)) => post u.1 u.2.1 u.2.2) (fun u t => va_P D vwCl (wM k a mm nn we la si it be pa su wo le (u.1) (u.2.1) (u.2.2) lo lp lq rp rq se no ne) t.heap) A) args s 0 0 A) (F0 m 8 ls [])) : ∀ (pp : Nat → Int32) (qq : Nat → Int32) (ro : Nat → Int32) (x3 : Int32) (x4 : Int32) (x6 : Int32) (H : Heap) (locs : List Loc) (ls : Array Slot), p_X5_insert_51 x1 x2 post k8 pp qq ro x3 x4 x6 → va_P D vwCl (wM k a mm nn we la si it be pa su wo le pp qq ro lo lp lq rp rq se no ne) H → va_D A (wM k a mm nn we la si it be pa su wo le pp qq ro lo lp lq rp rq se no ne) → va_S A s.heap H locs → lv_has ls 8 [(0, .ref (a 0)), (2, .int x2), (3, .int x3), (4, .int x4), (6, .int x6)] → W p l e ({ frames := 0, cells := 0, slots := 0, locals := 0 }) s m args below meth c H locs 0 0 (MQ below (va_Qv (fun (u : (Nat → Int32) × (Nat → Int32) × (Nat → Int32)) => post u.1 u.2.1 u.2.2) (fun u t => va_P D vwCl (wM k a mm nn we la si it be pa su wo le (u.1) (u.2.1) (u.2.2) lo lp lq rp rq se no ne) t.heap) A) args s 0 0 A) (F0 m 51 ls []) := by
  obtain ⟨hx, hb, hr, hts, hown, hlocks, hml⟩ := id C0
  intro pp qq ro x3 x4 x6 H locs ls hf hP hD hS hl
  unfold p_X5_insert_51 at hf
  refine lv_iload hx hb dX5_insert_51 (lv_at hl 4 rfl) ?_
  refine lv_aload_n hx hb dX5_insert_53 rfl (lv_at hl 0 rfl) ?_
  refine va_get (D := D) (ci := 5) (C := RX5) (T := TX5) (N := 22) hx hb hts in_X5_insert_X5 hown hG.1 hP 0 rfl rfl 13 (by decide) (hts _ lk_X5_insert_48) (fun _ h9 => h9) rfl dX5_insert_54 ?_
  refine lv_iload hx hb dX5_insert_57 (lv_at hl 3 rfl) ?_
  obtain ⟨h_4, hf⟩ := hf
  refine va_iald hx hb hG.1 hP 11 0 rfl rfl h_4 dX5_insert_59 ?_
  refine lv_icmp_ge (tgt := 67) hx hb dX5_insert_60 (by decide) (fun c_5 => ?_) (fun c_5 => ?_)
  · have hf := hf.1 c_5
    refine lv_iconst (v := 0) hx hb dX5_insert_67 (by decide) ?_
    exact k_X5_insert_68 C0 hG hk8 pp qq ro x3 x4 x6 0 _ _ _ hf hP hD hS (lv_sub hl [0, 1, 2, 3, 4] rfl)
  · have hf := hf.2 c_5
    refine lv_iconst (v := 1) hx hb dX5_insert_63 (by decide) ?_
    refine lv_goto (tgt := 68) hx hb dX5_insert_64 (by decide) ?_
    exact k_X5_insert_68 C0 hG hk8 pp qq ro x3 x4 x6 1 _ _ _ hf hP hD hS (lv_sub hl [0, 1, 2, 3, 4] rfl)
set_option maxHeartbeats 4000000 in
set_option maxRecDepth 100000 in
theorem k_X5_insert_16 {p : Program} {l : Launch} {e : Env} {s : State} {m : MethodId} {args : Array Value} {below : List Frame} {meth : Method} {c : Code} {A : Nat → Prop} {D : va_G} {k : Nat → ClassId} {a : Nat → Nat} {mm : Int32} {nn : Int32} {we : Nat → Int32} {la : Nat → Int32} {si : Nat → Int32} {it : Nat → Int32} {be : Nat → Int32} {pa : Nat → Int32} {su : Nat → Int64} {wo : Nat → Int32} {le : Int32} {lo : Nat → Int32} {lp : Nat → Int32} {lq : Nat → Int32} {rp : Nat → Int32} {rq : Nat → Int32} {se : Nat → Int32} {no : Nat → Int64} {ne : Nat → Int64} {x1 : Int32} {x2 : Int32} (C0 : xM p s m args meth c cX5_insert 8 RX5 none wsX5_insert) (hG : xG D k s) {post : (Nat → Int32) → (Nat → Int32) → (Nat → Int32) → Prop} {k8 : (Nat → Int32) → (Nat → Int32) → (Nat → Int32) → Int32 → Int32 → Int32 → Prop} (hk8 : ∀ (pp : Nat → Int32) (qq : Nat → Int32) (ro : Nat → Int32) (x3 : Int32) (x4 : Int32) (x5 : Int32) (H : Heap) (locs : List Loc) (ls : Array Slot), k8 pp qq ro x3 x4 x5 → va_P D vwCl (wM k a mm nn we la si it be pa su wo le pp qq ro lo lp lq rp rq se no ne) H → va_D A (wM k a mm nn we la si it be pa su wo le pp qq ro lo lp lq rp rq se no ne) → va_S A s.heap H locs → lv_has ls 8 [(0, .ref (a 0)), (2, .int x2), (3, .int x3), (4, .int x4), (5, .int x5)] → W p l e ({ frames := 0, cells := 0, slots := 0, locals := 0 }) s m args below meth c H locs 0 0 (MQ below (va_Qv (fun (u : (Nat → Int32) × (Nat → Int32) × (Nat → Int32)) => post u.1 u.2.1 u.2.2) (fun u t => va_P D vwCl (wM k a mm nn we la si it be pa su wo le (u.1) (u.2.1) (u.2.2) lo lp lq rp rq se no ne) t.heap) A) args s 0 0 A) (F0 m 8 ls [])) : ∀ (n : Nat) (pp : Nat → Int32) (qq : Nat → Int32) (ro : Nat → Int32) (x3 : Int32) (x4 : Int32) (x6 : Int32) (H : Heap) (locs : List Loc) (ls : Array Slot), p_X5_insert_16 x1 x2 post k8 n pp qq ro x3 x4 x6 → va_P D vwCl (wM k a mm nn we la si it be pa su wo le pp qq ro lo lp lq rp rq se no ne) H → va_D A (wM k a mm nn we la si it be pa su wo le pp qq ro lo lp lq rp rq se no ne) → va_S A s.heap H locs → lv_has ls 8 [(0, .ref (a 0)), (2, .int x2), (3, .int x3), (4, .int x4), (6, .int x6)] → W p l e ({ frames := 0, cells := 0, slots := 0, locals := 0 }) s m args below meth c H locs 0 0 (MQ below (va_Qv (fun (u : (Nat → Int32) × (Nat → Int32) × (Nat → Int32)) => post u.1 u.2.1 u.2.2) (fun u t => va_P D vwCl (wM k a mm nn we la si it be pa su wo le (u.1) (u.2.1) (u.2.2) lo lp lq rp rq se no ne) t.heap) A) args s 0 0 A) (F0 m 16 ls []) := by
  obtain ⟨hx, hb, hr, hts, hown, hlocks, hml⟩ := id C0
  intro n
  induction n with
  | zero =>
    intro pp qq ro x3 x4 x6 H locs ls hf
    exact False.elim hf
  | succ n ih =>
    intro pp qq ro x3 x4 x6 H locs ls hf hP hD hS hl
    unfold p_X5_insert_16 at hf
    refine lv_iload hx hb dX5_insert_16 (lv_at hl 4 rfl) ?_
    refine lv_aload_n hx hb dX5_insert_18 rfl (lv_at hl 0 rfl) ?_
    refine va_get (D := D) (ci := 5) (C := RX5) (T := TX5) (N := 22) hx hb hts in_X5_insert_X5 hown hG.1 hP 0 rfl rfl 13 (by decide) (hts _ lk_X5_insert_48) (fun _ h9 => h9) rfl dX5_insert_19 ?_
    refine lv_iload hx hb dX5_insert_22 (lv_at hl 3 rfl) ?_
    obtain ⟨h_2, hf⟩ := hf
    refine va_iald hx hb hG.1 hP 11 0 rfl rfl h_2 dX5_insert_24 ?_
    refine lv_icmp_ge (tgt := 51) hx hb dX5_insert_25 (by decide) (fun c_3 => ?_) (fun c_3 => ?_)
    · have hf := hf.1 c_3
      exact k_X5_insert_51 C0 hG hk8 pp qq ro x3 x4 x6 _ _ _ hf hP hD hS (lv_sub hl [0, 1, 2, 3, 4] rfl)
    · have hf := hf.2 c_3
      refine lv_aload_n hx hb dX5_insert_28 rfl (lv_at hl 0 rfl) ?_
      refine va_get (D := D) (ci := 5) (C := RX5) (T := TX5) (N := 22) hx hb hts in_X5_insert_X5 hown hG.1 hP 0 rfl rfl 11 (by decide) (hts _ lk_X5_insert_42) (fun _ h9 => h9) rfl dX5_insert_29 ?_
      refine lv_bipush (v := 40) hx hb dX5_insert_32 (by decide) ?_
      refine lv_iload hx hb dX5_insert_34 (lv_at hl 3 rfl) ?_
      refine lv_imul hx hb dX5_insert_36 ?_
      refine lv_iload hx hb dX5_insert_37 (lv_at hl 4 rfl) ?_
      refine lv_iadd hx hb dX5_insert_39 ?_
      obtain ⟨h_13, hf⟩ := hf
      refine va_iald hx hb hG.1 hP 9 0 rfl rfl h_13 dX5_insert_40 ?_
      refine lv_iload_n hx hb dX5_insert_41 rfl (lv_at hl 2 rfl) ?_
      refine lv_icmp_gt (tgt := 51) hx hb dX5_insert_42 (by decide) (fun c_14 => ?_) (fun c_14 => ?_)
      · have hf := hf.1 c_14
        exact k_X5_insert_51 C0 hG hk8 pp qq ro x3 x4 x6 _ _ _ hf hP hD hS (lv_sub hl [0, 1, 2, 3, 4] rfl)
      · have hf := hf.2 c_14
        refine lv_iinc (v := x6 + 1) (lv' := [(6, .int (x6 + 1)), (0, .ref (a 0)), (2, .int x2), (3, .int x3), (4, .int x4)]) hx hb dX5_insert_45 hl (k := 4) rfl rfl (by decide) rfl (fun ls hl => ?_)
        refine lv_goto (tgt := 16) hx hb dX5_insert_48 (by decide) ?_
        exact ih pp qq ro x3 x4 (x6 + 1) _ _ _ hf hP hD hS (lv_sub hl [1, 2, 3, 4, 0] rfl)
set_option maxHeartbeats 4000000 in
set_option maxRecDepth 100000 in
theorem k_X5_insert_8 {p : Program} {l : Launch} {e : Env} {s : State} {m : MethodId} {args : Array Value} {below : List Frame} {meth : Method} {c : Code} {A : Nat → Prop} {D : va_G} {k : Nat → ClassId} {a : Nat → Nat} {mm : Int32} {nn : Int32} {we : Nat → Int32} {la : Nat → Int32} {si : Nat → Int32} {it : Nat → Int32} {be : Nat → Int32} {pa : Nat → Int32} {su : Nat → Int64} {wo : Nat → Int32} {le : Int32} {lo : Nat → Int32} {lp : Nat → Int32} {lq : Nat → Int32} {rp : Nat → Int32} {rq : Nat → Int32} {se : Nat → Int32} {no : Nat → Int64} {ne : Nat → Int64} {x1 : Int32} {x2 : Int32} (C0 : xM p s m args meth c cX5_insert 8 RX5 none wsX5_insert) (hG : xG D k s) {post : (Nat → Int32) → (Nat → Int32) → (Nat → Int32) → Prop} : ∀ (n : Nat) (pp : Nat → Int32) (qq : Nat → Int32) (ro : Nat → Int32) (x3 : Int32) (x4 : Int32) (x5 : Int32) (H : Heap) (locs : List Loc) (ls : Array Slot), p_X5_insert_8 x1 x2 post n pp qq ro x3 x4 x5 → va_P D vwCl (wM k a mm nn we la si it be pa su wo le pp qq ro lo lp lq rp rq se no ne) H → va_D A (wM k a mm nn we la si it be pa su wo le pp qq ro lo lp lq rp rq se no ne) → va_S A s.heap H locs → lv_has ls 8 [(0, .ref (a 0)), (2, .int x2), (3, .int x3), (4, .int x4), (5, .int x5)] → W p l e ({ frames := 0, cells := 0, slots := 0, locals := 0 }) s m args below meth c H locs 0 0 (MQ below (va_Qv (fun (u : (Nat → Int32) × (Nat → Int32) × (Nat → Int32)) => post u.1 u.2.1 u.2.2) (fun u t => va_P D vwCl (wM k a mm nn we la si it be pa su wo le (u.1) (u.2.1) (u.2.2) lo lp lq rp rq se no ne) t.heap) A) args s 0 0 A) (F0 m 8 ls []) := by
  obtain ⟨hx, hb, hr, hts, hown, hlocks, hml⟩ := id C0
  intro n
  induction n with
  | zero =>
    intro pp qq ro x3 x4 x5 H locs ls hf
    exact False.elim hf
  | succ n ih =>
    intro pp qq ro x3 x4 x5 H locs ls hf hP hD hS hl
    unfold p_X5_insert_8 at hf
    refine lv_iload hx hb dX5_insert_8 (lv_at hl 4 rfl) ?_
    refine lv_if_eq (tgt := 147) hx hb dX5_insert_10 (by decide) (fun c_1 => ?_) (fun c_1 => ?_)
    · have hf := hf.1 c_1
      exact W.vret hx hb hr (fun t ht hW => ⟨⟨(pp, qq, ro), rfl, hf, xHp ht hP⟩, hS.F ht⟩) hS.2.2 dX5_insert_147 hlocks
    · have hf := hf.2 c_1
      refine lv_iconst (v := 0) hx hb dX5_insert_13 (by decide) ?_
      refine lv_istore (lv' := [(6, .int 0), (0, .ref (a 0)), (2, .int x2), (3, .int x3), (4, .int x4), (5, .int x5)]) hx hb dX5_insert_14 hl (by decide) rfl (fun ls hl => ?_)
      obtain ⟨n_15, hf⟩ := hf
      exact k_X5_insert_16 C0 hG ih n_15 pp qq ro x3 x4 0 _ _ _ hf hP hD hS (lv_sub hl [1, 2, 3, 4, 0] rfl)
set_option maxHeartbeats 4000000 in
set_option maxRecDepth 100000 in
theorem c_X5_insert {l : Launch} {D : va_G} {k : Nat → ClassId} (a : Nat → Nat) (mm : Int32) (nn : Int32) (we : Nat → Int32) (la : Nat → Int32) (si : Nat → Int32) (it : Nat → Int32) (be : Nat → Int32) (pa : Nat → Int32) (su : Nat → Int64) (wo : Nat → Int32) (le : Int32) (pp : Nat → Int32) (qq : Nat → Int32) (ro : Nat → Int32) (lo : Nat → Int32) (lp : Nat → Int32) (lq : Nat → Int32) (rp : Nat → Int32) (rq : Nat → Int32) (se : Nat → Int32) (no : Nat → Int64) (ne : Nat → Int64) (x1 : Int32) (x2 : Int32) {post : (Nat → Int32) → (Nat → Int32) → (Nat → Int32) → Prop} (hf : p_X5_insert pp qq ro x1 x2 post) : ctV l yX5_insert wsX5_insert ({ frames := 0, cells := 0, slots := 0, locals := 0 }) D k [.ref (a 0), .int x1, .int x2] (wM k a mm nn we la si it be pa su wo le pp qq ro lo lp lq rp rq se no ne) (fun u : (Nat → Int32) × (Nat → Int32) × (Nat → Int32) => wM k a mm nn we la si it be pa su wo le (u.1) (u.2.1) (u.2.2) lo lp lq rp rq se no ne) (fun (u : (Nat → Int32) × (Nat → Int32) × (Nat → Int32)) => post u.1 u.2.1 u.2.2) := by
  refine Met.ofW (cc := cX5_insert) (maxL := 8) (ret := none) (by decide) rfl ?_
  intro p e s m args below meth c s₁ B hml hv
  obtain ⟨rfl, hP, hG, hD0⟩ := hv
  have C0 : xM p s m ([.ref (a 0), .int x1, .int x2] : List Value).toArray meth c cX5_insert 8 RX5 none wsX5_insert := ⟨B.exec, B.bytes, B.returns, atoms_spec (ws := wsX5_insert) B.pre, findClass_of_methodNamed B.named, B.notSynchronized, hml⟩
  obtain ⟨hx, hb, hr, hts, hown, hlocks, hml⟩ := id C0
  have hD := xSelf hD0
  have hS : va_S (xIn (wM k a mm nn we la si it be pa su wo le pp qq ro lo lp lq rp rq se no ne)) s.heap s.heap [] := va_S.rf
  generalize xIn (wM k a mm nn we la si it be pa su wo le pp qq ro lo lp lq rp rq se no ne) = A at hD hS ⊢
  have hl := lv_entry ([.ref (a 0), .int x1, .int x2]) (n := 8) (Nat.le_of_ble_eq_true rfl)
  rw [lg_entry_eq]
  generalize (lg_sl ([.ref (a 0), .int x1, .int x2]) ++ List.replicate (8 - (lg_sl ([.ref (a 0), .int x1, .int x2])).length) Slot.unset).toArray = ls at hl ⊢
  have hl : lv_has ls 8 [(0, .ref (a 0)), (1, .int x1), (2, .int x2)] := hl
  unfold p_X5_insert at hf
  refine lv_iload_n hx hb dX5_insert_0 rfl (lv_at hl 1 rfl) ?_
  refine lv_istore_n (lv' := [(3, .int x1), (0, .ref (a 0)), (1, .int x1), (2, .int x2)]) hx hb dX5_insert_1 rfl hl (by decide) rfl (fun ls hl => ?_)
  refine lv_iconst (v := 0) hx hb dX5_insert_2 (by decide) ?_
  refine lv_istore (lv' := [(4, .int 0), (3, .int x1), (0, .ref (a 0)), (1, .int x1), (2, .int x2)]) hx hb dX5_insert_3 hl (by decide) rfl (fun ls hl => ?_)
  refine lv_iconst (v := 1) hx hb dX5_insert_5 (by decide) ?_
  refine lv_istore (lv' := [(5, .int 1), (4, .int 0), (3, .int x1), (0, .ref (a 0)), (1, .int x1), (2, .int x2)]) hx hb dX5_insert_6 hl (by decide) rfl (fun ls hl => ?_)
  obtain ⟨n_16, hf⟩ := hf
  exact k_X5_insert_8 C0 hG n_16 pp qq ro x1 0 1 _ _ _ hf hP hD hS (lv_sub hl [3, 5, 2, 1, 0] rfl)

def p_X5_makeTableaux_23 (wo : Nat → Int32) (le : Int32) (post : (Nat → Int32) → (Nat → Int32) → (Nat → Int32) → Prop) : Nat → (Nat → Int32) → (Nat → Int32) → (Nat → Int32) → Int32 → Prop
  | 0, _, _, _, _ => False
  | n + 1, pp, qq, ro, x1 => ((le ≤ x1 → post pp qq ro) ∧ (¬ le ≤ x1 → (vp_in x1 40 ∧ p_X5_insert pp qq ro (wo x1.toNatClampNeg) (x1 + 1) (fun pp_4 qq_5 ro_6 => p_X5_makeTableaux_23 wo le post n pp_4 qq_5 ro_6 (x1 + 1)))))
def p_X5_makeTableaux_2 (wo : Nat → Int32) (le : Int32) (post : (Nat → Int32) → (Nat → Int32) → (Nat → Int32) → Prop) : Nat → (Nat → Int32) → (Nat → Int32) → (Nat → Int32) → Int32 → Prop
  | 0, _, _, _, _ => False
  | n + 1, pp, qq, ro, x1 => ((9 ≤ x1 → (∃ n_7, p_X5_makeTableaux_23 wo le post n_7 pp qq ro 0)) ∧ (¬ 9 ≤ x1 → (vp_in x1 9 ∧ p_X5_makeTableaux_2 wo le post n pp qq (upd ro (x1.toNatClampNeg) 0) (x1 + 1))))
def p_X5_makeTableaux (wo : Nat → Int32) (le : Int32) (pp : Nat → Int32) (qq : Nat → Int32) (ro : Nat → Int32) (post : (Nat → Int32) → (Nat → Int32) → (Nat → Int32) → Prop) : Prop := (∃ n_9, p_X5_makeTableaux_2 wo le post n_9 pp qq ro 0)
theorem in_X5_makeTableaux_X5 : ∀ w ∈ u_ws RX5 TX5 22, w ∈ wsX5_makeTableaux := by decide +kernel
theorem lk_X5_makeTableaux_110 : Cond.fieldLink RX5 110 "GrowingCornersModel" "letters" "I" ∈ wsX5_makeTableaux := by decide +kernel
theorem lk_X5_makeTableaux_39 : Cond.fieldLink RX5 39 "GrowingCornersModel" "word" "[I" ∈ wsX5_makeTableaux := by decide +kernel
theorem lk_X5_makeTableaux_48 : Cond.fieldLink RX5 48 "GrowingCornersModel" "rows" "[I" ∈ wsX5_makeTableaux := by decide +kernel
set_option maxHeartbeats 4000000 in
set_option maxRecDepth 100000 in
theorem k_X5_makeTableaux_23 {p : Program} {l : Launch} {e : Env} {s : State} {m : MethodId} {args : Array Value} {below : List Frame} {meth : Method} {c : Code} {A : Nat → Prop} {D : va_G} {k : Nat → ClassId} {a : Nat → Nat} {mm : Int32} {nn : Int32} {we : Nat → Int32} {la : Nat → Int32} {si : Nat → Int32} {it : Nat → Int32} {be : Nat → Int32} {pa : Nat → Int32} {su : Nat → Int64} {wo : Nat → Int32} {le : Int32} {lo : Nat → Int32} {lp : Nat → Int32} {lq : Nat → Int32} {rp : Nat → Int32} {rq : Nat → Int32} {se : Nat → Int32} {no : Nat → Int64} {ne : Nat → Int64} (C0 : xM p s m args meth c cX5_makeTableaux 2 RX5 none wsX5_makeTableaux) (hG : xG D k s) {post : (Nat → Int32) → (Nat → Int32) → (Nat → Int32) → Prop} : ∀ (n : Nat) (pp : Nat → Int32) (qq : Nat → Int32) (ro : Nat → Int32) (x1 : Int32) (H : Heap) (locs : List Loc) (ls : Array Slot), p_X5_makeTableaux_23 wo le post n pp qq ro x1 → va_P D vwCl (wM k a mm nn we la si it be pa su wo le pp qq ro lo lp lq rp rq se no ne) H → va_D A (wM k a mm nn we la si it be pa su wo le pp qq ro lo lp lq rp rq se no ne) → va_S A s.heap H locs → lv_has ls 2 [(0, .ref (a 0)), (1, .int x1)] → W p l e ({ frames := 1, cells := 0, slots := 0, locals := 27 }) s m args below meth c H locs 0 0 (MQ below (va_Qv (fun (u : (Nat → Int32) × (Nat → Int32) × (Nat → Int32)) => post u.1 u.2.1 u.2.2) (fun u t => va_P D vwCl (wM k a mm nn we la si it be pa su wo le (u.1) (u.2.1) (u.2.2) lo lp lq rp rq se no ne) t.heap) A) args s 0 0 A) (F0 m 23 ls []) := by
  obtain ⟨hx, hb, hr, hts, hown, hlocks, hml⟩ := id C0
  intro n
  induction n with
  | zero =>
    intro pp qq ro x1 H locs ls hf
    exact False.elim hf
  | succ n ih =>
    intro pp qq ro x1 H locs ls hf hP hD hS hl
    unfold p_X5_makeTableaux_23 at hf
    refine lv_iload_n hx hb dX5_makeTableaux_23 rfl (lv_at hl 1 rfl) ?_
    refine lv_aload_n hx hb dX5_makeTableaux_24 rfl (lv_at hl 0 rfl) ?_
    refine va_get (D := D) (ci := 5) (C := RX5) (T := TX5) (N := 22) hx hb hts in_X5_makeTableaux_X5 hown hG.1 hP 0 rfl rfl 10 (by decide) (hts _ lk_X5_makeTableaux_110) (fun _ h9 => h9) rfl dX5_makeTableaux_25 ?_
    refine lv_icmp_ge (tgt := 50) hx hb dX5_makeTableaux_28 (by decide) (fun c_2 => ?_) (fun c_2 => ?_)
    · have hf := hf.1 c_2
      exact W.vret hx hb hr (fun t ht hW => ⟨⟨(pp, qq, ro), rfl, hf, xHp ht hP⟩, hS.F ht⟩) hS.2.2 dX5_makeTableaux_50 hlocks
    · have hf := hf.2 c_2
      refine lv_aload_n hx hb dX5_makeTableaux_31 rfl (lv_at hl 0 rfl) ?_
      refine lv_aload_n hx hb dX5_makeTableaux_32 rfl (lv_at hl 0 rfl) ?_
      refine va_get (D := D) (ci := 5) (C := RX5) (T := TX5) (N := 22) hx hb hts in_X5_makeTableaux_X5 hown hG.1 hP 0 rfl rfl 9 (by decide) (hts _ lk_X5_makeTableaux_39) (fun _ h9 => h9) rfl dX5_makeTableaux_33 ?_
      refine lv_iload_n hx hb dX5_makeTableaux_36 rfl (lv_at hl 1 rfl) ?_
      obtain ⟨h_3, hf⟩ := hf
      refine va_iald hx hb hG.1 hP 8 0 rfl rfl h_3 dX5_makeTableaux_37 ?_
      refine lv_iload_n hx hb dX5_makeTableaux_38 rfl (lv_at hl 1 rfl) ?_
      refine lv_iconst (v := 1) hx hb dX5_makeTableaux_39 (by decide) ?_
      refine lv_iadd hx hb dX5_makeTableaux_40 ?_
      have hp : xPerm (wM k a mm nn we la si it be pa su wo le pp qq ro lo lp lq rp rq se no ne) ((wM k a mm nn we la si it be pa su wo le pp qq ro lo lp lq rp rq se no ne) ++ ([])) := xPermNil
      refine xCallV (w := wM k a mm nn we la si it be pa su wo le pp qq ro lo lp lq rp rq se no ne) (r := []) (va_runV (As := [.int (wo x1.toNatClampNeg), .int (x1 + 1)]) (rest := []) ⟨hx, hb, hml, hown, hts⟩ (c_X5_insert a mm nn we la si it be pa su wo le pp qq ro lo lp lq rp rq se no ne (wo x1.toNatClampNeg) (x1 + 1) hf) (cwV 2 hts gX5_makeTableaux_X5_insert rfl rfl rfl (by decide +kernel) ⟨Nat.le_of_ble_eq_true rfl, Nat.le_of_ble_eq_true rfl⟩) (xPreV hG hP hD hp (ci := 5) rfl (i := 0) rfl) rfl rfl hl.1 rfl (lv_room (Nat.le_of_ble_eq_true rfl)) dX5_makeTableaux_41 ⟨Nat.zero_le _, Nat.zero_le _⟩) hP hD hS hp (fun _ => rfl) (fun u H locs hf hP hD hS => ?_)
      obtain ⟨pp_4, qq_5, ro_6⟩ := u
      have hP : va_P D vwCl (wM k a mm nn we la si it be pa su wo le pp_4 qq_5 ro_6 lo lp lq rp rq se no ne) H := xNilP hP
      have hD : va_D A (wM k a mm nn we la si it be pa su wo le pp_4 qq_5 ro_6 lo lp lq rp rq se no ne) := xNilD hD
      refine lv_iinc (v := x1 + 1) (lv' := [(1, .int (x1 + 1)), (0, .ref (a 0))]) hx hb dX5_makeTableaux_44 hl (k := 1) rfl rfl (by decide) rfl (fun ls hl => ?_)
      refine lv_goto (tgt := 23) hx hb dX5_makeTableaux_47 (by decide) ?_
      exact ih pp_4 qq_5 ro_6 (x1 + 1) _ _ _ hf hP hD hS (lv_sub hl [1, 0] rfl)
set_option maxHeartbeats 4000000 in
set_option maxRecDepth 100000 in
theorem k_X5_makeTableaux_2 {p : Program} {l : Launch} {e : Env} {s : State} {m : MethodId} {args : Array Value} {below : List Frame} {meth : Method} {c : Code} {A : Nat → Prop} {D : va_G} {k : Nat → ClassId} {a : Nat → Nat} {mm : Int32} {nn : Int32} {we : Nat → Int32} {la : Nat → Int32} {si : Nat → Int32} {it : Nat → Int32} {be : Nat → Int32} {pa : Nat → Int32} {su : Nat → Int64} {wo : Nat → Int32} {le : Int32} {lo : Nat → Int32} {lp : Nat → Int32} {lq : Nat → Int32} {rp : Nat → Int32} {rq : Nat → Int32} {se : Nat → Int32} {no : Nat → Int64} {ne : Nat → Int64} (C0 : xM p s m args meth c cX5_makeTableaux 2 RX5 none wsX5_makeTableaux) (hG : xG D k s) {post : (Nat → Int32) → (Nat → Int32) → (Nat → Int32) → Prop} : ∀ (n : Nat) (pp : Nat → Int32) (qq : Nat → Int32) (ro : Nat → Int32) (x1 : Int32) (H : Heap) (locs : List Loc) (ls : Array Slot), p_X5_makeTableaux_2 wo le post n pp qq ro x1 → va_P D vwCl (wM k a mm nn we la si it be pa su wo le pp qq ro lo lp lq rp rq se no ne) H → va_D A (wM k a mm nn we la si it be pa su wo le pp qq ro lo lp lq rp rq se no ne) → va_S A s.heap H locs → lv_has ls 2 [(0, .ref (a 0)), (1, .int x1)] → W p l e ({ frames := 1, cells := 0, slots := 0, locals := 27 }) s m args below meth c H locs 0 0 (MQ below (va_Qv (fun (u : (Nat → Int32) × (Nat → Int32) × (Nat → Int32)) => post u.1 u.2.1 u.2.2) (fun u t => va_P D vwCl (wM k a mm nn we la si it be pa su wo le (u.1) (u.2.1) (u.2.2) lo lp lq rp rq se no ne) t.heap) A) args s 0 0 A) (F0 m 2 ls []) := by
  obtain ⟨hx, hb, hr, hts, hown, hlocks, hml⟩ := id C0
  intro n
  induction n with
  | zero =>
    intro pp qq ro x1 H locs ls hf
    exact False.elim hf
  | succ n ih =>
    intro pp qq ro x1 H locs ls hf hP hD hS hl
    unfold p_X5_makeTableaux_2 at hf
    refine lv_iload_n hx hb dX5_makeTableaux_2 rfl (lv_at hl 1 rfl) ?_
    refine lv_bipush (v := 9) hx hb dX5_makeTableaux_3 (by decide) ?_
    refine lv_icmp_ge (tgt := 21) hx hb dX5_makeTableaux_5 (by decide) (fun c_1 => ?_) (fun c_1 => ?_)
    · have hf := hf.1 c_1
      refine lv_iconst (v := 0) hx hb dX5_makeTableaux_21 (by decide) ?_
      refine lv_istore_n (lv' := [(1, .int 0), (0, .ref (a 0))]) hx hb dX5_makeTableaux_22 rfl hl (by decide) rfl (fun ls hl => ?_)
      obtain ⟨n_7, hf⟩ := hf
      exact k_X5_makeTableaux_23 C0 hG n_7 pp qq ro 0 _ _ _ hf hP hD hS (lv_sub hl [1, 0] rfl)
    · have hf := hf.2 c_1
      refine lv_aload_n hx hb dX5_makeTableaux_8 rfl (lv_at hl 0 rfl) ?_
      refine va_get (D := D) (ci := 5) (C := RX5) (T := TX5) (N := 22) hx hb hts in_X5_makeTableaux_X5 hown hG.1 hP 0 rfl rfl 13 (by decide) (hts _ lk_X5_makeTableaux_48) (fun _ h9 => h9) rfl dX5_makeTableaux_9 ?_
      refine lv_iload_n hx hb dX5_makeTableaux_12 rfl (lv_at hl 1 rfl) ?_
      refine lv_iconst (v := 0) hx hb dX5_makeTableaux_13 (by decide) ?_
      obtain ⟨h_8, hf⟩ := hf
      refine va_iast hx hb hG.1 hP hD hS 11 0 rfl rfl h_8 dX5_makeTableaux_14 (fun H locs hP hD hS => ?_)
      have hP : va_P D vwCl (wM k a mm nn we la si it be pa su wo le pp qq (upd ro (x1.toNatClampNeg) 0) lo lp lq rp rq se no ne) H := hP
      have hD : va_D A (wM k a mm nn we la si it be pa su wo le pp qq (upd ro (x1.toNatClampNeg) 0) lo lp lq rp rq se no ne) := hD
      refine lv_iinc (v := x1 + 1) (lv' := [(1, .int (x1 + 1)), (0, .ref (a 0))]) hx hb dX5_makeTableaux_15 hl (k := 1) rfl rfl (by decide) rfl (fun ls hl => ?_)
      refine lv_goto (tgt := 2) hx hb dX5_makeTableaux_18 (by decide) ?_
      exact ih pp qq (upd ro (x1.toNatClampNeg) 0) (x1 + 1) _ _ _ hf hP hD hS (lv_sub hl [1, 0] rfl)
set_option maxHeartbeats 4000000 in
set_option maxRecDepth 100000 in
theorem c_X5_makeTableaux {l : Launch} {D : va_G} {k : Nat → ClassId} (a : Nat → Nat) (mm : Int32) (nn : Int32) (we : Nat → Int32) (la : Nat → Int32) (si : Nat → Int32) (it : Nat → Int32) (be : Nat → Int32) (pa : Nat → Int32) (su : Nat → Int64) (wo : Nat → Int32) (le : Int32) (pp : Nat → Int32) (qq : Nat → Int32) (ro : Nat → Int32) (lo : Nat → Int32) (lp : Nat → Int32) (lq : Nat → Int32) (rp : Nat → Int32) (rq : Nat → Int32) (se : Nat → Int32) (no : Nat → Int64) (ne : Nat → Int64) {post : (Nat → Int32) → (Nat → Int32) → (Nat → Int32) → Prop} (hf : p_X5_makeTableaux wo le pp qq ro post) : ctV l yX5_makeTableaux wsX5_makeTableaux ({ frames := 1, cells := 0, slots := 0, locals := 27 }) D k [.ref (a 0)] (wM k a mm nn we la si it be pa su wo le pp qq ro lo lp lq rp rq se no ne) (fun u : (Nat → Int32) × (Nat → Int32) × (Nat → Int32) => wM k a mm nn we la si it be pa su wo le (u.1) (u.2.1) (u.2.2) lo lp lq rp rq se no ne) (fun (u : (Nat → Int32) × (Nat → Int32) × (Nat → Int32)) => post u.1 u.2.1 u.2.2) := by
  refine Met.ofW (cc := cX5_makeTableaux) (maxL := 2) (ret := none) (by decide) rfl ?_
  intro p e s m args below meth c s₁ B hml hv
  obtain ⟨rfl, hP, hG, hD0⟩ := hv
  have C0 : xM p s m ([.ref (a 0)] : List Value).toArray meth c cX5_makeTableaux 2 RX5 none wsX5_makeTableaux := ⟨B.exec, B.bytes, B.returns, atoms_spec (ws := wsX5_makeTableaux) B.pre, findClass_of_methodNamed B.named, B.notSynchronized, hml⟩
  obtain ⟨hx, hb, hr, hts, hown, hlocks, hml⟩ := id C0
  have hD := xSelf hD0
  have hS : va_S (xIn (wM k a mm nn we la si it be pa su wo le pp qq ro lo lp lq rp rq se no ne)) s.heap s.heap [] := va_S.rf
  generalize xIn (wM k a mm nn we la si it be pa su wo le pp qq ro lo lp lq rp rq se no ne) = A at hD hS ⊢
  have hl := lv_entry ([.ref (a 0)]) (n := 2) (Nat.le_of_ble_eq_true rfl)
  rw [lg_entry_eq]
  generalize (lg_sl ([.ref (a 0)]) ++ List.replicate (2 - (lg_sl ([.ref (a 0)])).length) Slot.unset).toArray = ls at hl ⊢
  have hl : lv_has ls 2 [(0, .ref (a 0))] := hl
  unfold p_X5_makeTableaux at hf
  refine lv_iconst (v := 0) hx hb dX5_makeTableaux_0 (by decide) ?_
  refine lv_istore_n (lv' := [(1, .int 0), (0, .ref (a 0))]) hx hb dX5_makeTableaux_1 rfl hl (by decide) rfl (fun ls hl => ?_)
  obtain ⟨n_9, hf⟩ := hf
  exact k_X5_makeTableaux_2 C0 hG n_9 pp qq ro 0 _ _ _ hf hP hD hS (lv_sub hl [1, 0] rfl)

def p_X5_row (wo : Nat → Int32) (le : Int32) (pp : Nat → Int32) (qq : Nat → Int32) (ro : Nat → Int32) (x1 : Int32) (post : Int32 → (Nat → Int32) → (Nat → Int32) → (Nat → Int32) → Prop) : Prop := p_X5_in (x1.toInt64) 0 8 (fun r_1 => ((r_1 = 0 → post (-1) pp qq ro) ∧ (¬ r_1 = 0 → p_X5_makeTableaux wo le pp qq ro (fun pp_3 qq_4 ro_5 => (vp_in x1 9 ∧ post (ro_5 x1.toNatClampNeg) pp_3 qq_4 ro_5)))))
theorem in_X5_row_X5 : ∀ w ∈ u_ws RX5 TX5 22, w ∈ wsX5_row := by decide +kernel
theorem lk_X5_row_48 : Cond.fieldLink RX5 48 "GrowingCornersModel" "rows" "[I" ∈ wsX5_row := by decide +kernel
theorem mb_X5_row_cl116 : Cond.constantLong RX5 116 (8) ∈ wsX5_row := by decide +kernel
set_option maxHeartbeats 4000000 in
set_option maxRecDepth 100000 in
theorem c_X5_row {l : Launch} {D : va_G} {k : Nat → ClassId} (a : Nat → Nat) (mm : Int32) (nn : Int32) (we : Nat → Int32) (la : Nat → Int32) (si : Nat → Int32) (it : Nat → Int32) (be : Nat → Int32) (pa : Nat → Int32) (su : Nat → Int64) (wo : Nat → Int32) (le : Int32) (pp : Nat → Int32) (qq : Nat → Int32) (ro : Nat → Int32) (lo : Nat → Int32) (lp : Nat → Int32) (lq : Nat → Int32) (rp : Nat → Int32) (rq : Nat → Int32) (se : Nat → Int32) (no : Nat → Int64) (ne : Nat → Int64) (x1 : Int32) {post : Int32 → (Nat → Int32) → (Nat → Int32) → (Nat → Int32) → Prop} (hf : p_X5_row wo le pp qq ro x1 post) : ctI l yX5_row wsX5_row ({ frames := 2, cells := 0, slots := 0, locals := 48 }) D k [.ref (a 0), .int x1] (wM k a mm nn we la si it be pa su wo le pp qq ro lo lp lq rp rq se no ne) (fun u : (Nat → Int32) × (Nat → Int32) × (Nat → Int32) => wM k a mm nn we la si it be pa su wo le (u.1) (u.2.1) (u.2.2) lo lp lq rp rq se no ne) (fun (r : Int32) (u : (Nat → Int32) × (Nat → Int32) × (Nat → Int32)) => post r u.1 u.2.1 u.2.2) := by
  refine Met.ofW (cc := cX5_row) (maxL := 2) (ret := (some .int)) (by decide) rfl ?_
  intro p e s m args below meth c s₁ B hml hv
  obtain ⟨rfl, hP, hG, hD0⟩ := hv
  have C0 : xM p s m ([.ref (a 0), .int x1] : List Value).toArray meth c cX5_row 2 RX5 (some .int) wsX5_row := ⟨B.exec, B.bytes, B.returns, atoms_spec (ws := wsX5_row) B.pre, findClass_of_methodNamed B.named, B.notSynchronized, hml⟩
  obtain ⟨hx, hb, hr, hts, hown, hlocks, hml⟩ := id C0
  have hD := xSelf hD0
  have hS : va_S (xIn (wM k a mm nn we la si it be pa su wo le pp qq ro lo lp lq rp rq se no ne)) s.heap s.heap [] := va_S.rf
  generalize xIn (wM k a mm nn we la si it be pa su wo le pp qq ro lo lp lq rp rq se no ne) = A at hD hS ⊢
  have hl := lv_entry ([.ref (a 0), .int x1]) (n := 2) (Nat.le_of_ble_eq_true rfl)
  rw [lg_entry_eq]
  generalize (lg_sl ([.ref (a 0), .int x1]) ++ List.replicate (2 - (lg_sl ([.ref (a 0), .int x1])).length) Slot.unset).toArray = ls at hl ⊢
  have hl : lv_has ls 2 [(0, .ref (a 0)), (1, .int x1)] := hl
  unfold p_X5_row at hf
  refine lv_iload_n hx hb dX5_row_0 rfl (lv_at hl 1 rfl) ?_
  refine lv_i2l (v := x1.toInt64) hx hb dX5_row_1 rfl ?_
  refine lv_lconst (v := 0) hx hb dX5_row_2 (by decide) ?_
  refine lv_ldc2 (v := 8) hx hb hown (hts _ mb_X5_row_cl116) dX5_row_3 ?_
  have hp : xPerm (wM k a mm nn we la si it be pa su wo le pp qq ro lo lp lq rp rq se no ne) (([]) ++ (wM k a mm nn we la si it be pa su wo le pp qq ro lo lp lq rp rq se no ne)) := (List.Perm.refl _)
  refine xCallI (w := []) (r := wM k a mm nn we la si it be pa su wo le pp qq ro lo lp lq rp rq se no ne) (va_runS (As := [.long (x1.toInt64), .long 0, .long 8]) (rest := []) ⟨hx, hb, hml, hown, hts⟩ (c_X5_in (x1.toInt64) 0 8 hf) (va_cwS 3 hts gX5_row_X5_in rfl rfl rfl (by decide +kernel) ⟨Nat.le_of_ble_eq_true rfl, Nat.le_of_ble_eq_true rfl⟩) (xPreS hG hP hD hp) rfl rfl hl.1 rfl (lv_room (Nat.le_of_ble_eq_true rfl)) dX5_row_6 ⟨Nat.zero_le _, Nat.zero_le _⟩) hP hD hS hp (fun _ => rfl) (fun r_1 _ H locs hf hP hD hS => ?_)
  have hP : va_P D vwCl (wM k a mm nn we la si it be pa su wo le pp qq ro lo lp lq rp rq se no ne) H := hP
  have hD : va_D A (wM k a mm nn we la si it be pa su wo le pp qq ro lo lp lq rp rq se no ne) := hD
  refine lv_if_ne (tgt := 14) hx hb dX5_row_9 (by decide) (fun c_2 => ?_) (fun c_2 => ?_)
  · have hf := hf.2 c_2
    refine lv_aload_n hx hb dX5_row_14 rfl (lv_at hl 0 rfl) ?_
    have hp : xPerm (wM k a mm nn we la si it be pa su wo le pp qq ro lo lp lq rp rq se no ne) ((wM k a mm nn we la si it be pa su wo le pp qq ro lo lp lq rp rq se no ne) ++ ([])) := xPermNil
    refine xCallV (w := wM k a mm nn we la si it be pa su wo le pp qq ro lo lp lq rp rq se no ne) (r := []) (va_runV (As := []) (rest := []) ⟨hx, hb, hml, hown, hts⟩ (c_X5_makeTableaux a mm nn we la si it be pa su wo le pp qq ro lo lp lq rp rq se no ne hf) (cwV 0 hts gX5_row_X5_makeTableaux rfl rfl rfl (by decide +kernel) ⟨Nat.le_of_ble_eq_true rfl, Nat.le_of_ble_eq_true rfl⟩) (xPreV hG hP hD hp (ci := 5) rfl (i := 0) rfl) rfl rfl hl.1 rfl (lv_room (Nat.le_of_ble_eq_true rfl)) dX5_row_15 ⟨Nat.zero_le _, Nat.zero_le _⟩) hP hD hS hp (fun _ => rfl) (fun u H locs hf hP hD hS => ?_)
    obtain ⟨pp_3, qq_4, ro_5⟩ := u
    have hP : va_P D vwCl (wM k a mm nn we la si it be pa su wo le pp_3 qq_4 ro_5 lo lp lq rp rq se no ne) H := xNilP hP
    have hD : va_D A (wM k a mm nn we la si it be pa su wo le pp_3 qq_4 ro_5 lo lp lq rp rq se no ne) := xNilD hD
    refine lv_aload_n hx hb dX5_row_18 rfl (lv_at hl 0 rfl) ?_
    refine va_get (D := D) (ci := 5) (C := RX5) (T := TX5) (N := 22) hx hb hts in_X5_row_X5 hown hG.1 hP 0 rfl rfl 13 (by decide) (hts _ lk_X5_row_48) (fun _ h9 => h9) rfl dX5_row_19 ?_
    refine lv_iload_n hx hb dX5_row_22 rfl (lv_at hl 1 rfl) ?_
    obtain ⟨h_6, hf⟩ := hf
    refine va_iald hx hb hG.1 hP 11 0 rfl rfl h_6 dX5_row_23 ?_
    exact W.iret (v := (ro_5 x1.toNatClampNeg)) hx hb hr (fun t ht hW => ⟨⟨(ro_5 x1.toNatClampNeg), (pp_3, qq_4, ro_5), rfl, hf, xHp ht hP⟩, hS.F ht⟩) hS.2.2 dX5_row_24 hlocks
  · have hf := hf.1 c_2
    refine lv_iconst (v := (-1)) hx hb dX5_row_12 (by decide) ?_
    exact W.iret (v := (-1)) hx hb hr (fun t ht hW => ⟨⟨((-1) : Int32), (pp, qq, ro), rfl, hf, xHp ht hP⟩, hS.F ht⟩) hS.2.2 dX5_row_13 hlocks

def p_X5_place (wo : Nat → Int32) (le : Int32) (pp : Nat → Int32) (qq : Nat → Int32) (ro : Nat → Int32) (x1 : Int32) (x2 : Int32) (x3 : Int32) (post : Int32 → (Nat → Int32) → (Nat → Int32) → (Nat → Int32) → Prop) : Prop := p_X5_in (x1.toInt64) 0 1 (fun r_1 => ((r_1 = 0 → post (-1) pp qq ro) ∧ (¬ r_1 = 0 → p_X5_in (x2.toInt64) 0 8 (fun r_3 => ((r_3 = 0 → post (-1) pp qq ro) ∧ (¬ r_3 = 0 → ((0 ≤ x3 → p_X5_makeTableaux wo le pp qq ro (fun pp_6 qq_7 ro_8 => (vp_in x2 9 ∧ ((x3 < (ro_8 x2.toNatClampNeg) → ((x1 = 0 → (vp_in ((40 * x2) + x3) 360 ∧ post (pp_6 ((40 * x2) + x3).toNatClampNeg) pp_6 qq_7 ro_8)) ∧ (¬ x1 = 0 → (vp_in ((40 * x2) + x3) 360 ∧ post (qq_7 ((40 * x2) + x3).toNatClampNeg) pp_6 qq_7 ro_8)))) ∧ (¬ x3 < (ro_8 x2.toNatClampNeg) → post (-4) pp_6 qq_7 ro_8))))) ∧ (¬ 0 ≤ x3 → post (-1) pp qq ro))))))))
theorem in_X5_place_X5 : ∀ w ∈ u_ws RX5 TX5 22, w ∈ wsX5_place := by decide +kernel
theorem lk_X5_place_42 : Cond.fieldLink RX5 42 "GrowingCornersModel" "p" "[I" ∈ wsX5_place := by decide +kernel
theorem lk_X5_place_45 : Cond.fieldLink RX5 45 "GrowingCornersModel" "q" "[I" ∈ wsX5_place := by decide +kernel
theorem lk_X5_place_48 : Cond.fieldLink RX5 48 "GrowingCornersModel" "rows" "[I" ∈ wsX5_place := by decide +kernel
theorem mb_X5_place_cl116 : Cond.constantLong RX5 116 (8) ∈ wsX5_place := by decide +kernel
set_option maxHeartbeats 4000000 in
set_option maxRecDepth 100000 in
theorem c_X5_place {l : Launch} {D : va_G} {k : Nat → ClassId} (a : Nat → Nat) (mm : Int32) (nn : Int32) (we : Nat → Int32) (la : Nat → Int32) (si : Nat → Int32) (it : Nat → Int32) (be : Nat → Int32) (pa : Nat → Int32) (su : Nat → Int64) (wo : Nat → Int32) (le : Int32) (pp : Nat → Int32) (qq : Nat → Int32) (ro : Nat → Int32) (lo : Nat → Int32) (lp : Nat → Int32) (lq : Nat → Int32) (rp : Nat → Int32) (rq : Nat → Int32) (se : Nat → Int32) (no : Nat → Int64) (ne : Nat → Int64) (x1 : Int32) (x2 : Int32) (x3 : Int32) {post : Int32 → (Nat → Int32) → (Nat → Int32) → (Nat → Int32) → Prop} (hf : p_X5_place wo le pp qq ro x1 x2 x3 post) : ctI l yX5_place wsX5_place ({ frames := 2, cells := 0, slots := 0, locals := 48 }) D k [.ref (a 0), .int x1, .int x2, .int x3] (wM k a mm nn we la si it be pa su wo le pp qq ro lo lp lq rp rq se no ne) (fun u : (Nat → Int32) × (Nat → Int32) × (Nat → Int32) => wM k a mm nn we la si it be pa su wo le (u.1) (u.2.1) (u.2.2) lo lp lq rp rq se no ne) (fun (r : Int32) (u : (Nat → Int32) × (Nat → Int32) × (Nat → Int32)) => post r u.1 u.2.1 u.2.2) := by
  refine Met.ofW (cc := cX5_place) (maxL := 4) (ret := (some .int)) (by decide) rfl ?_
  intro p e s m args below meth c s₁ B hml hv
  obtain ⟨rfl, hP, hG, hD0⟩ := hv
  have C0 : xM p s m ([.ref (a 0), .int x1, .int x2, .int x3] : List Value).toArray meth c cX5_place 4 RX5 (some .int) wsX5_place := ⟨B.exec, B.bytes, B.returns, atoms_spec (ws := wsX5_place) B.pre, findClass_of_methodNamed B.named, B.notSynchronized, hml⟩
  obtain ⟨hx, hb, hr, hts, hown, hlocks, hml⟩ := id C0
  have hD := xSelf hD0
  have hS : va_S (xIn (wM k a mm nn we la si it be pa su wo le pp qq ro lo lp lq rp rq se no ne)) s.heap s.heap [] := va_S.rf
  generalize xIn (wM k a mm nn we la si it be pa su wo le pp qq ro lo lp lq rp rq se no ne) = A at hD hS ⊢
  have hl := lv_entry ([.ref (a 0), .int x1, .int x2, .int x3]) (n := 4) (Nat.le_of_ble_eq_true rfl)
  rw [lg_entry_eq]
  generalize (lg_sl ([.ref (a 0), .int x1, .int x2, .int x3]) ++ List.replicate (4 - (lg_sl ([.ref (a 0), .int x1, .int x2, .int x3])).length) Slot.unset).toArray = ls at hl ⊢
  have hl : lv_has ls 4 [(0, .ref (a 0)), (1, .int x1), (2, .int x2), (3, .int x3)] := hl
  unfold p_X5_place at hf
  refine lv_iload_n hx hb dX5_place_0 rfl (lv_at hl 1 rfl) ?_
  refine lv_i2l (v := x1.toInt64) hx hb dX5_place_1 rfl ?_
  refine lv_lconst (v := 0) hx hb dX5_place_2 (by decide) ?_
  refine lv_lconst (v := 1) hx hb dX5_place_3 (by decide) ?_
  have hp : xPerm (wM k a mm nn we la si it be pa su wo le pp qq ro lo lp lq rp rq se no ne) (([]) ++ (wM k a mm nn we la si it be pa su wo le pp qq ro lo lp lq rp rq se no ne)) := (List.Perm.refl _)
  refine xCallI (w := []) (r := wM k a mm nn we la si it be pa su wo le pp qq ro lo lp lq rp rq se no ne) (va_runS (As := [.long (x1.toInt64), .long 0, .long 1]) (rest := []) ⟨hx, hb, hml, hown, hts⟩ (c_X5_in (x1.toInt64) 0 1 hf) (va_cwS 3 hts gX5_place_X5_in rfl rfl rfl (by decide +kernel) ⟨Nat.le_of_ble_eq_true rfl, Nat.le_of_ble_eq_true rfl⟩) (xPreS hG hP hD hp) rfl rfl hl.1 rfl (lv_room (Nat.le_of_ble_eq_true rfl)) dX5_place_4 ⟨Nat.zero_le _, Nat.zero_le _⟩) hP hD hS hp (fun _ => rfl) (fun r_1 _ H locs hf hP hD hS => ?_)
  have hP : va_P D vwCl (wM k a mm nn we la si it be pa su wo le pp qq ro lo lp lq rp rq se no ne) H := hP
  have hD : va_D A (wM k a mm nn we la si it be pa su wo le pp qq ro lo lp lq rp rq se no ne) := hD
  refine lv_if_eq (tgt := 26) hx hb dX5_place_7 (by decide) (fun c_2 => ?_) (fun c_2 => ?_)
  · have hf := hf.1 c_2
    refine lv_iconst (v := (-1)) hx hb dX5_place_26 (by decide) ?_
    exact W.iret (v := (-1)) hx hb hr (fun t ht hW => ⟨⟨((-1) : Int32), (pp, qq, ro), rfl, hf, xHp ht hP⟩, hS.F ht⟩) hS.2.2 dX5_place_27 hlocks
  · have hf := hf.2 c_2
    refine lv_iload_n hx hb dX5_place_10 rfl (lv_at hl 2 rfl) ?_
    refine lv_i2l (v := x2.toInt64) hx hb dX5_place_11 rfl ?_
    refine lv_lconst (v := 0) hx hb dX5_place_12 (by decide) ?_
    refine lv_ldc2 (v := 8) hx hb hown (hts _ mb_X5_place_cl116) dX5_place_13 ?_
    have hp : xPerm (wM k a mm nn we la si it be pa su wo le pp qq ro lo lp lq rp rq se no ne) (([]) ++ (wM k a mm nn we la si it be pa su wo le pp qq ro lo lp lq rp rq se no ne)) := (List.Perm.refl _)
    refine xCallI (w := []) (r := wM k a mm nn we la si it be pa su wo le pp qq ro lo lp lq rp rq se no ne) (va_runS (As := [.long (x2.toInt64), .long 0, .long 8]) (rest := []) ⟨hx, hb, hml, hown, hts⟩ (c_X5_in (x2.toInt64) 0 8 hf) (va_cwS 3 hts gX5_place_X5_in rfl rfl rfl (by decide +kernel) ⟨Nat.le_of_ble_eq_true rfl, Nat.le_of_ble_eq_true rfl⟩) (xPreS hG hP hD hp) rfl rfl hl.1 rfl (lv_room (Nat.le_of_ble_eq_true rfl)) dX5_place_16 ⟨Nat.zero_le _, Nat.zero_le _⟩) hP hD hS hp (fun _ => rfl) (fun r_3 _ H locs hf hP hD hS => ?_)
    have hP : va_P D vwCl (wM k a mm nn we la si it be pa su wo le pp qq ro lo lp lq rp rq se no ne) H := hP
    have hD : va_D A (wM k a mm nn we la si it be pa su wo le pp qq ro lo lp lq rp rq se no ne) := hD
    refine lv_if_eq (tgt := 26) hx hb dX5_place_19 (by decide) (fun c_4 => ?_) (fun c_4 => ?_)
    · have hf := hf.1 c_4
      refine lv_iconst (v := (-1)) hx hb dX5_place_26 (by decide) ?_
      exact W.iret (v := (-1)) hx hb hr (fun t ht hW => ⟨⟨((-1) : Int32), (pp, qq, ro), rfl, hf, xHp ht hP⟩, hS.F ht⟩) hS.2.2 dX5_place_27 hlocks
    · have hf := hf.2 c_4
      refine lv_iload_n hx hb dX5_place_22 rfl (lv_at hl 3 rfl) ?_
      refine lv_if_ge (tgt := 28) hx hb dX5_place_23 (by decide) (fun c_5 => ?_) (fun c_5 => ?_)
      · have hf := hf.1 c_5
        refine lv_aload_n hx hb dX5_place_28 rfl (lv_at hl 0 rfl) ?_
        have hp : xPerm (wM k a mm nn we la si it be pa su wo le pp qq ro lo lp lq rp rq se no ne) ((wM k a mm nn we la si it be pa su wo le pp qq ro lo lp lq rp rq se no ne) ++ ([])) := xPermNil
        refine xCallV (w := wM k a mm nn we la si it be pa su wo le pp qq ro lo lp lq rp rq se no ne) (r := []) (va_runV (As := []) (rest := []) ⟨hx, hb, hml, hown, hts⟩ (c_X5_makeTableaux a mm nn we la si it be pa su wo le pp qq ro lo lp lq rp rq se no ne hf) (cwV 0 hts gX5_place_X5_makeTableaux rfl rfl rfl (by decide +kernel) ⟨Nat.le_of_ble_eq_true rfl, Nat.le_of_ble_eq_true rfl⟩) (xPreV hG hP hD hp (ci := 5) rfl (i := 0) rfl) rfl rfl hl.1 rfl (lv_room (Nat.le_of_ble_eq_true rfl)) dX5_place_29 ⟨Nat.zero_le _, Nat.zero_le _⟩) hP hD hS hp (fun _ => rfl) (fun u H locs hf hP hD hS => ?_)
        obtain ⟨pp_6, qq_7, ro_8⟩ := u
        have hP : va_P D vwCl (wM k a mm nn we la si it be pa su wo le pp_6 qq_7 ro_8 lo lp lq rp rq se no ne) H := xNilP hP
        have hD : va_D A (wM k a mm nn we la si it be pa su wo le pp_6 qq_7 ro_8 lo lp lq rp rq se no ne) := xNilD hD
        refine lv_iload_n hx hb dX5_place_32 rfl (lv_at hl 3 rfl) ?_
        refine lv_aload_n hx hb dX5_place_33 rfl (lv_at hl 0 rfl) ?_
        refine va_get (D := D) (ci := 5) (C := RX5) (T := TX5) (N := 22) hx hb hts in_X5_place_X5 hown hG.1 hP 0 rfl rfl 13 (by decide) (hts _ lk_X5_place_48) (fun _ h9 => h9) rfl dX5_place_34 ?_
        refine lv_iload_n hx hb dX5_place_37 rfl (lv_at hl 2 rfl) ?_
        obtain ⟨h_9, hf⟩ := hf
        refine va_iald hx hb hG.1 hP 11 0 rfl rfl h_9 dX5_place_38 ?_
        refine lv_icmp_lt (tgt := 47) hx hb dX5_place_39 (by decide) (fun c_10 => ?_) (fun c_10 => ?_)
        · have hf := hf.1 c_10
          refine lv_iload_n hx hb dX5_place_47 rfl (lv_at hl 1 rfl) ?_
          refine lv_if_ne (tgt := 65) hx hb dX5_place_48 (by decide) (fun c_11 => ?_) (fun c_11 => ?_)
          · have hf := hf.2 c_11
            refine lv_aload_n hx hb dX5_place_65 rfl (lv_at hl 0 rfl) ?_
            refine va_get (D := D) (ci := 5) (C := RX5) (T := TX5) (N := 22) hx hb hts in_X5_place_X5 hown hG.1 hP 0 rfl rfl 12 (by decide) (hts _ lk_X5_place_45) (fun _ h9 => h9) rfl dX5_place_66 ?_
            refine lv_bipush (v := 40) hx hb dX5_place_69 (by decide) ?_
            refine lv_iload_n hx hb dX5_place_71 rfl (lv_at hl 2 rfl) ?_
            refine lv_imul hx hb dX5_place_72 ?_
            refine lv_iload_n hx hb dX5_place_73 rfl (lv_at hl 3 rfl) ?_
            refine lv_iadd hx hb dX5_place_74 ?_
            obtain ⟨h_12, hf⟩ := hf
            refine va_iald hx hb hG.1 hP 10 0 rfl rfl h_12 dX5_place_75 ?_
            exact W.iret (v := (qq_7 ((40 * x2) + x3).toNatClampNeg)) hx hb hr (fun t ht hW => ⟨⟨(qq_7 ((40 * x2) + x3).toNatClampNeg), (pp_6, qq_7, ro_8), rfl, hf, xHp ht hP⟩, hS.F ht⟩) hS.2.2 dX5_place_76 hlocks
          · have hf := hf.1 c_11
            refine lv_aload_n hx hb dX5_place_51 rfl (lv_at hl 0 rfl) ?_
            refine va_get (D := D) (ci := 5) (C := RX5) (T := TX5) (N := 22) hx hb hts in_X5_place_X5 hown hG.1 hP 0 rfl rfl 11 (by decide) (hts _ lk_X5_place_42) (fun _ h9 => h9) rfl dX5_place_52 ?_
            refine lv_bipush (v := 40) hx hb dX5_place_55 (by decide) ?_
            refine lv_iload_n hx hb dX5_place_57 rfl (lv_at hl 2 rfl) ?_
            refine lv_imul hx hb dX5_place_58 ?_
            refine lv_iload_n hx hb dX5_place_59 rfl (lv_at hl 3 rfl) ?_
            refine lv_iadd hx hb dX5_place_60 ?_
            obtain ⟨h_13, hf⟩ := hf
            refine va_iald hx hb hG.1 hP 9 0 rfl rfl h_13 dX5_place_61 ?_
            refine lv_goto (tgt := 76) hx hb dX5_place_62 (by decide) ?_
            exact W.iret (v := (pp_6 ((40 * x2) + x3).toNatClampNeg)) hx hb hr (fun t ht hW => ⟨⟨(pp_6 ((40 * x2) + x3).toNatClampNeg), (pp_6, qq_7, ro_8), rfl, hf, xHp ht hP⟩, hS.F ht⟩) hS.2.2 dX5_place_76 hlocks
        · have hf := hf.2 c_10
          refine lv_bipush (v := (-4)) hx hb dX5_place_42 (by decide) ?_
          refine lv_goto (tgt := 76) hx hb dX5_place_44 (by decide) ?_
          exact W.iret (v := (-4)) hx hb hr (fun t ht hW => ⟨⟨((-4) : Int32), (pp_6, qq_7, ro_8), rfl, hf, xHp ht hP⟩, hS.F ht⟩) hS.2.2 dX5_place_76 hlocks
      · have hf := hf.2 c_5
        refine lv_iconst (v := (-1)) hx hb dX5_place_26 (by decide) ?_
        exact W.iret (v := (-1)) hx hb hr (fun t ht hW => ⟨⟨((-1) : Int32), (pp, qq, ro), rfl, hf, xHp ht hP⟩, hS.F ht⟩) hS.2.2 dX5_place_27 hlocks

def p_X5_longest_128 (wo : Nat → Int32) (le : Int32) (x1 : Int32) (post : Int32 → (Nat → Int32) → Prop) (k16 : (Nat → Int32) → Int32 → Int32 → Prop) (k34 : (Nat → Int32) → Int32 → Int32 → Int32 → Prop) (lo : Nat → Int32) (x2 : Int32) (x3 : Int32) (x4 : Int32) (s0 : Int32) (s1 : Int32) : Prop := (vp_in s1 40 ∧ k34 (upd lo (s1.toNatClampNeg) s0) x2 x3 (x4 + 1))
def p_X5_longest_89 (wo : Nat → Int32) (le : Int32) (x1 : Int32) (post : Int32 → (Nat → Int32) → Prop) (k16 : (Nat → Int32) → Int32 → Int32 → Prop) (k34 : (Nat → Int32) → Int32 → Int32 → Int32 → Prop) (lo : Nat → Int32) (x2 : Int32) (x3 : Int32) (x4 : Int32) (s0 : Int32) : Prop := ((s0 = 0 → (vp_in x3 40 ∧ p_X5_longest_128 wo le x1 post k16 k34 lo x2 x3 x4 (lo x3.toNatClampNeg) x3)) ∧ (¬ s0 = 0 → (vp_in x3 40 ∧ (vp_in x4 40 ∧ p_X5_greater (lo x3.toNatClampNeg) ((lo x4.toNatClampNeg) + 1) (fun r_17 => p_X5_longest_128 wo le x1 post k16 k34 lo x2 x3 x4 r_17 x3)))))
def p_X5_longest_34 (wo : Nat → Int32) (le : Int32) (x1 : Int32) (post : Int32 → (Nat → Int32) → Prop) (k16 : (Nat → Int32) → Int32 → Int32 → Prop) : Nat → (Nat → Int32) → Int32 → Int32 → Int32 → Prop
  | 0, _, _, _, _ => False
  | n + 1, lo, x2, x3, x4 => ((x3 ≤ x4 → (vp_in x3 40 ∧ p_X5_greater x2 (lo x3.toNatClampNeg) (fun r_7 => k16 lo r_7 (x3 + 1)))) ∧ (¬ x3 ≤ x4 → ((x1 = 0 → (vp_in x4 40 ∧ (vp_in x3 40 ∧ (((wo x3.toNatClampNeg) < (wo x4.toNatClampNeg) → p_X5_longest_89 wo le x1 post k16 (fun lo x2 x3 x4 => p_X5_longest_34 wo le x1 post k16 n lo x2 x3 x4) lo x2 x3 x4 0) ∧ (¬ (wo x3.toNatClampNeg) < (wo x4.toNatClampNeg) → p_X5_longest_89 wo le x1 post k16 (fun lo x2 x3 x4 => p_X5_longest_34 wo le x1 post k16 n lo x2 x3 x4) lo x2 x3 x4 1))))) ∧ (¬ x1 = 0 → (vp_in x4 40 ∧ (vp_in x3 40 ∧ (((wo x4.toNatClampNeg) ≤ (wo x3.toNatClampNeg) → p_X5_longest_89 wo le x1 post k16 (fun lo x2 x3 x4 => p_X5_longest_34 wo le x1 post k16 n lo x2 x3 x4) lo x2 x3 x4 0) ∧ (¬ (wo x4.toNatClampNeg) ≤ (wo x3.toNatClampNeg) → p_X5_longest_89 wo le x1 post k16 (fun lo x2 x3 x4 => p_X5_longest_34 wo le x1 post k16 n lo x2 x3 x4) lo x2 x3 x4 1))))))))
def p_X5_longest_16 (wo : Nat → Int32) (le : Int32) (x1 : Int32) (post : Int32 → (Nat → Int32) → Prop) : Nat → (Nat → Int32) → Int32 → Int32 → Prop
  | 0, _, _, _ => False
  | n + 1, lo, x2, x3 => ((le ≤ x3 → post x2 lo) ∧ (¬ le ≤ x3 → (vp_in x3 40 ∧ (∃ n_21, p_X5_longest_34 wo le x1 post (fun lo x2 x3 => p_X5_longest_16 wo le x1 post n lo x2 x3) n_21 (upd lo (x3.toNatClampNeg) 1) x2 x3 0))))
def p_X5_longest (wo : Nat → Int32) (le : Int32) (lo : Nat → Int32) (x1 : Int32) (post : Int32 → (Nat → Int32) → Prop) : Prop := p_X5_in (x1.toInt64) 0 1 (fun r_1 => ((r_1 = 0 → post (-1) lo) ∧ (¬ r_1 = 0 → (∃ n_22, p_X5_longest_16 wo le x1 post n_22 lo 0 0))))
theorem in_X5_longest_X5 : ∀ w ∈ u_ws RX5 TX5 22, w ∈ wsX5_longest := by decide +kernel
theorem lk_X5_longest_110 : Cond.fieldLink RX5 110 "GrowingCornersModel" "letters" "I" ∈ wsX5_longest := by decide +kernel
theorem lk_X5_longest_39 : Cond.fieldLink RX5 39 "GrowingCornersModel" "word" "[I" ∈ wsX5_longest := by decide +kernel
theorem lk_X5_longest_51 : Cond.fieldLink RX5 51 "GrowingCornersModel" "long0" "[I" ∈ wsX5_longest := by decide +kernel
set_option maxHeartbeats 4000000 in
set_option maxRecDepth 100000 in
theorem k_X5_longest_128 {p : Program} {l : Launch} {e : Env} {s : State} {m : MethodId} {args : Array Value} {below : List Frame} {meth : Method} {c : Code} {A : Nat → Prop} {D : va_G} {k : Nat → ClassId} {a : Nat → Nat} {mm : Int32} {nn : Int32} {we : Nat → Int32} {la : Nat → Int32} {si : Nat → Int32} {it : Nat → Int32} {be : Nat → Int32} {pa : Nat → Int32} {su : Nat → Int64} {wo : Nat → Int32} {le : Int32} {pp : Nat → Int32} {qq : Nat → Int32} {ro : Nat → Int32} {lp : Nat → Int32} {lq : Nat → Int32} {rp : Nat → Int32} {rq : Nat → Int32} {se : Nat → Int32} {no : Nat → Int64} {ne : Nat → Int64} {x1 : Int32} (C0 : xM p s m args meth c cX5_longest 6 RX5 (some .int) wsX5_longest) (hG : xG D k s) {post : Int32 → (Nat → Int32) → Prop} {k16 : (Nat → Int32) → Int32 → Int32 → Prop} (hk16 : ∀ (lo : Nat → Int32) (x2 : Int32) (x3 : Int32) (H : Heap) (locs : List Loc) (ls : Array Slot), k16 lo x2 x3 → va_P D vwCl (wM k a mm nn we la si it be pa su wo le pp qq ro lo lp lq rp rq se no ne) H → va_D A (wM k a mm nn we la si it be pa su wo le pp qq ro lo lp lq rp rq se no ne) → va_S A s.heap H locs → lv_has ls 6 [(0, .ref (a 0)), (1, .int x1), (2, .int x2), (3, .int x3)] → W p l e ({ frames := 1, cells := 0, slots := 0, locals := 25 }) s m args below meth c H locs 0 0 (MQ below (va_Qi (fun (r : Int32) (u : (Nat → Int32)) => post r u) (fun u t => va_P D vwCl (wM k a mm nn we la si it be pa su wo le pp qq ro u lp lq rp rq se no ne) t.heap) A) args s 0 0 A) (F0 m 16 ls [])) {k34 : (Nat → Int32) → Int32 → Int32 → Int32 → Prop} (hk34 : ∀ (lo : Nat → Int32) (x2 : Int32) (x3 : Int32) (x4 : Int32) (H : Heap) (locs : List Loc) (ls : Array Slot), k34 lo x2 x3 x4 → va_P D vwCl (wM k a mm nn we la si it be pa su wo le pp qq ro lo lp lq rp rq se no ne) H → va_D A (wM k a mm nn we la si it be pa su wo le pp qq ro lo lp lq rp rq se no ne) → va_S A s.heap H locs → lv_has ls 6 [(0, .ref (a 0)), (1, .int x1), (2, .int x2), (3, .int x3), (4, .int x4)] → W p l e ({ frames := 1, cells := 0, slots := 0, locals := 25 }) s m args below meth c H locs 0 0 (MQ below (va_Qi (fun (r : Int32) (u : (Nat → Int32)) => post r u) (fun u t => va_P D vwCl (wM k a mm nn we la si it be pa su wo le pp qq ro u lp lq rp rq se no ne) t.heap) A) args s 0 0 A) (F0 m 34 ls [])) : ∀ (lo : Nat → Int32) (x2 : Int32) (x3 : Int32) (x4 : Int32) (s0 : Int32) (s1 : Int32) (H : Heap) (locs : List Loc) (ls : Array Slot), p_X5_longest_128 wo le x1 post k16 k34 lo x2 x3 x4 s0 s1 → va_P D vwCl (wM k a mm nn we la si it be pa su wo le pp qq ro lo lp lq rp rq se no ne) H → va_D A (wM k a mm nn we la si it be pa su wo le pp qq ro lo lp lq rp rq se no ne) → va_S A s.heap H locs → lv_has ls 6 [(0, .ref (a 0)), (1, .int x1), (2, .int x2), (3, .int x3), (4, .int x4)] → W p l e ({ frames := 1, cells := 0, slots := 0, locals := 25 }) s m args below meth c H locs 0 0 (MQ below (va_Qi (fun (r : Int32) (u : (Nat → Int32)) => post r u) (fun u t => va_P D vwCl (wM k a mm nn we la si it be pa su wo le pp qq ro u lp lq rp rq se no ne) t.heap) A) args s 0 0 A) (F0 m 128 ls [.int s0, .int s1, .ref (a 12)]) := by
  obtain ⟨hx, hb, hr, hts, hown, hlocks, hml⟩ := id C0
  intro lo x2 x3 x4 s0 s1 H locs ls hf hP hD hS hl
  unfold p_X5_longest_128 at hf
  obtain ⟨h_14, hf⟩ := hf
  refine va_iast hx hb hG.1 hP hD hS 12 0 rfl rfl h_14 dX5_longest_128 (fun H locs hP hD hS => ?_)
  have hP : va_P D vwCl (wM k a mm nn we la si it be pa su wo le pp qq ro (upd lo (s1.toNatClampNeg) s0) lp lq rp rq se no ne) H := hP
  have hD : va_D A (wM k a mm nn we la si it be pa su wo le pp qq ro (upd lo (s1.toNatClampNeg) s0) lp lq rp rq se no ne) := hD
  refine lv_iinc (v := x4 + 1) (lv' := [(4, .int (x4 + 1)), (0, .ref (a 0)), (1, .int x1), (2, .int x2), (3, .int x3)]) hx hb dX5_longest_129 hl (k := 4) rfl rfl (by decide) rfl (fun ls hl => ?_)
  refine lv_goto (tgt := 34) hx hb dX5_longest_132 (by decide) ?_
  exact hk34 (upd lo (s1.toNatClampNeg) s0) x2 x3 (x4 + 1) _ _ _ hf hP hD hS (lv_sub hl [1, 2, 3, 4, 0] rfl)
set_option maxHeartbeats 4000000 in
set_option maxRecDepth 100000 in
theorem k_X5_longest_89 {p : Program} {l : Launch} {e : Env} {s : State} {m : MethodId} {args : Array Value} {below : List Frame} {meth : Method} {c : Code} {A : Nat → Prop} {D : va_G} {k : Nat → ClassId} {a : Nat → Nat} {mm : Int32} {nn : Int32} {we : Nat → Int32} {la : Nat → Int32} {si : Nat → Int32} {it : Nat → Int32} {be : Nat → Int32} {pa : Nat → Int32} {su : Nat → Int64} {wo : Nat → Int32} {le : Int32} {pp : Nat → Int32} {qq : Nat → Int32} {ro : Nat → Int32} {lp : Nat → Int32} {lq : Nat → Int32} {rp : Nat → Int32} {rq : Nat → Int32} {se : Nat → Int32} {no : Nat → Int64} {ne : Nat → Int64} {x1 : Int32} (C0 : xM p s m args meth c cX5_longest 6 RX5 (some .int) wsX5_longest) (hG : xG D k s) {post : Int32 → (Nat → Int32) → Prop} {k16 : (Nat → Int32) → Int32 → Int32 → Prop} (hk16 : ∀ (lo : Nat → Int32) (x2 : Int32) (x3 : Int32) (H : Heap) (locs : List Loc) (ls : Array Slot), k16 lo x2 x3 → va_P D vwCl (wM k a mm nn we la si it be pa su wo le pp qq ro lo lp lq rp rq se no ne) H → va_D A (wM k a mm nn we la si it be pa su wo le pp qq ro lo lp lq rp rq se no ne) → va_S A s.heap H locs → lv_has ls 6 [(0, .ref (a 0)), (1, .int x1), (2, .int x2), (3, .int x3)] → W p l e ({ frames := 1, cells := 0, slots := 0, locals := 25 }) s m args below meth c H locs 0 0 (MQ below (va_Qi (fun (r : Int32) (u : (Nat → Int32)) => post r u) (fun u t => va_P D vwCl (wM k a mm nn we la si it be pa su wo le pp qq ro u lp lq rp rq se no ne) t.heap) A) args s 0 0 A) (F0 m 16 ls [])) {k34 : (Nat → Int32) → Int32 → Int32 → Int32 → Prop} (hk34 : ∀ (lo : Nat → Int32) (x2 : Int32) (x3 : Int32) (x4 : Int32) (H : Heap) (locs : List Loc) (ls : Array Slot), k34 lo x2 x3 x4 → va_P D vwCl (wM k a mm nn we la si it be pa su wo le pp qq ro lo lp lq rp rq se no ne) H → va_D A (wM k a mm nn we la si it be pa su wo le pp qq ro lo lp lq rp rq se no ne) → va_S A s.heap H locs → lv_has ls 6 [(0, .ref (a 0)), (1, .int x1), (2, .int x2), (3, .int x3), (4, .int x4)] → W p l e ({ frames := 1, cells := 0, slots := 0, locals := 25 }) s m args below meth c H locs 0 0 (MQ below (va_Qi (fun (r : Int32) (u : (Nat → Int32)) => post r u) (fun u t => va_P D vwCl (wM k a mm nn we la si it be pa su wo le pp qq ro u lp lq rp rq se no ne) t.heap) A) args s 0 0 A) (F0 m 34 ls [])) : ∀ (lo : Nat → Int32) (x2 : Int32) (x3 : Int32) (x4 : Int32) (s0 : Int32) (H : Heap) (locs : List Loc) (ls : Array Slot), p_X5_longest_89 wo le x1 post k16 k34 lo x2 x3 x4 s0 → va_P D vwCl (wM k a mm nn we la si it be pa su wo le pp qq ro lo lp lq rp rq se no ne) H → va_D A (wM k a mm nn we la si it be pa su wo le pp qq ro lo lp lq rp rq se no ne) → va_S A s.heap H locs → lv_has ls 6 [(0, .ref (a 0)), (1, .int x1), (2, .int x2), (3, .int x3), (4, .int x4)] → W p l e ({ frames := 1, cells := 0, slots := 0, locals := 25 }) s m args below meth c H locs 0 0 (MQ below (va_Qi (fun (r : Int32) (u : (Nat → Int32)) => post r u) (fun u t => va_P D vwCl (wM k a mm nn we la si it be pa su wo le pp qq ro u lp lq rp rq se no ne) t.heap) A) args s 0 0 A) (F0 m 89 ls [.int s0]) := by
  obtain ⟨hx, hb, hr, hts, hown, hlocks, hml⟩ := id C0
  intro lo x2 x3 x4 s0 H locs ls hf hP hD hS hl
  unfold p_X5_longest_89 at hf
  refine lv_istore (lv' := [(5, .int s0), (0, .ref (a 0)), (1, .int x1), (2, .int x2), (3, .int x3), (4, .int x4)]) hx hb dX5_longest_89 hl (by decide) rfl (fun ls hl => ?_)
  refine lv_aload_n hx hb dX5_longest_91 rfl (lv_at hl 1 rfl) ?_
  refine va_get (D := D) (ci := 5) (C := RX5) (T := TX5) (N := 22) hx hb hts in_X5_longest_X5 hown hG.1 hP 0 rfl rfl 14 (by decide) (hts _ lk_X5_longest_51) (fun _ h9 => h9) rfl dX5_longest_92 ?_
  refine lv_iload_n hx hb dX5_longest_95 rfl (lv_at hl 4 rfl) ?_
  refine lv_iload hx hb dX5_longest_96 (lv_at hl 0 rfl) ?_
  refine lv_if_eq (tgt := 122) hx hb dX5_longest_98 (by decide) (fun c_12 => ?_) (fun c_12 => ?_)
  · have hf := hf.1 c_12
    refine lv_aload_n hx hb dX5_longest_122 rfl (lv_at hl 1 rfl) ?_
    refine va_get (D := D) (ci := 5) (C := RX5) (T := TX5) (N := 22) hx hb hts in_X5_longest_X5 hown hG.1 hP 0 rfl rfl 14 (by decide) (hts _ lk_X5_longest_51) (fun _ h9 => h9) rfl dX5_longest_123 ?_
    refine lv_iload_n hx hb dX5_longest_126 rfl (lv_at hl 4 rfl) ?_
    obtain ⟨h_13, hf⟩ := hf
    refine va_iald hx hb hG.1 hP 12 0 rfl rfl h_13 dX5_longest_127 ?_
    exact k_X5_longest_128 C0 hG hk16 hk34 lo x2 x3 x4 (lo x3.toNatClampNeg) x3 _ _ _ hf hP hD hS (lv_sub hl [1, 2, 3, 4, 5] rfl)
  · have hf := hf.2 c_12
    refine lv_aload_n hx hb dX5_longest_101 rfl (lv_at hl 1 rfl) ?_
    refine va_get (D := D) (ci := 5) (C := RX5) (T := TX5) (N := 22) hx hb hts in_X5_longest_X5 hown hG.1 hP 0 rfl rfl 14 (by decide) (hts _ lk_X5_longest_51) (fun _ h9 => h9) rfl dX5_longest_102 ?_
    refine lv_iload_n hx hb dX5_longest_105 rfl (lv_at hl 4 rfl) ?_
    obtain ⟨h_15, hf⟩ := hf
    refine va_iald hx hb hG.1 hP 12 0 rfl rfl h_15 dX5_longest_106 ?_
    refine lv_aload_n hx hb dX5_longest_107 rfl (lv_at hl 1 rfl) ?_
    refine va_get (D := D) (ci := 5) (C := RX5) (T := TX5) (N := 22) hx hb hts in_X5_longest_X5 hown hG.1 hP 0 rfl rfl 14 (by decide) (hts _ lk_X5_longest_51) (fun _ h9 => h9) rfl dX5_longest_108 ?_
    refine lv_iload hx hb dX5_longest_111 (lv_at hl 5 rfl) ?_
    obtain ⟨h_16, hf⟩ := hf
    refine va_iald hx hb hG.1 hP 12 0 rfl rfl h_16 dX5_longest_113 ?_
    refine lv_iconst (v := 1) hx hb dX5_longest_114 (by decide) ?_
    refine lv_iadd hx hb dX5_longest_115 ?_
    have hp : xPerm (wM k a mm nn we la si it be pa su wo le pp qq ro lo lp lq rp rq se no ne) (([]) ++ (wM k a mm nn we la si it be pa su wo le pp qq ro lo lp lq rp rq se no ne)) := (List.Perm.refl _)
    refine xCallI (w := []) (r := wM k a mm nn we la si it be pa su wo le pp qq ro lo lp lq rp rq se no ne) (va_runS (As := [.int (lo x3.toNatClampNeg), .int ((lo x4.toNatClampNeg) + 1)]) (rest := [.int x3, .ref (a 12)]) ⟨hx, hb, hml, hown, hts⟩ (c_X5_greater (lo x3.toNatClampNeg) ((lo x4.toNatClampNeg) + 1) hf) (va_cwS 2 hts gX5_longest_X5_greater rfl rfl rfl (by decide +kernel) ⟨Nat.le_of_ble_eq_true rfl, Nat.le_of_ble_eq_true rfl⟩) (xPreS hG hP hD hp) rfl rfl hl.1 rfl (lv_room (Nat.le_of_ble_eq_true rfl)) dX5_longest_116 ⟨Nat.zero_le _, Nat.zero_le _⟩) hP hD hS hp (fun _ => rfl) (fun r_17 _ H locs hf hP hD hS => ?_)
    have hP : va_P D vwCl (wM k a mm nn we la si it be pa su wo le pp qq ro lo lp lq rp rq se no ne) H := hP
    have hD : va_D A (wM k a mm nn we la si it be pa su wo le pp qq ro lo lp lq rp rq se no ne) := hD
    refine lv_goto (tgt := 128) hx hb dX5_longest_119 (by decide) ?_
    exact k_X5_longest_128 C0 hG hk16 hk34 lo x2 x3 x4 r_17 x3 _ _ _ hf hP hD hS (lv_sub hl [1, 2, 3, 4, 5] rfl)
set_option maxHeartbeats 4000000 in
set_option maxRecDepth 100000 in
theorem k_X5_longest_34 {p : Program} {l : Launch} {e : Env} {s : State} {m : MethodId} {args : Array Value} {below : List Frame} {meth : Method} {c : Code} {A : Nat → Prop} {D : va_G} {k : Nat → ClassId} {a : Nat → Nat} {mm : Int32} {nn : Int32} {we : Nat → Int32} {la : Nat → Int32} {si : Nat → Int32} {it : Nat → Int32} {be : Nat → Int32} {pa : Nat → Int32} {su : Nat → Int64} {wo : Nat → Int32} {le : Int32} {pp : Nat → Int32} {qq : Nat → Int32} {ro : Nat → Int32} {lp : Nat → Int32} {lq : Nat → Int32} {rp : Nat → Int32} {rq : Nat → Int32} {se : Nat → Int32} {no : Nat → Int64} {ne : Nat → Int64} {x1 : Int32} (C0 : xM p s m args meth c cX5_longest 6 RX5 (some .int) wsX5_longest) (hG : xG D k s) {post : Int32 → (Nat → Int32) → Prop} {k16 : (Nat → Int32) → Int32 → Int32 → Prop} (hk16 : ∀ (lo : Nat → Int32) (x2 : Int32) (x3 : Int32) (H : Heap) (locs : List Loc) (ls : Array Slot), k16 lo x2 x3 → va_P D vwCl (wM k a mm nn we la si it be pa su wo le pp qq ro lo lp lq rp rq se no ne) H → va_D A (wM k a mm nn we la si it be pa su wo le pp qq ro lo lp lq rp rq se no ne) → va_S A s.heap H locs → lv_has ls 6 [(0, .ref (a 0)), (1, .int x1), (2, .int x2), (3, .int x3)] → W p l e ({ frames := 1, cells := 0, slots := 0, locals := 25 }) s m args below meth c H locs 0 0 (MQ below (va_Qi (fun (r : Int32) (u : (Nat → Int32)) => post r u) (fun u t => va_P D vwCl (wM k a mm nn we la si it be pa su wo le pp qq ro u lp lq rp rq se no ne) t.heap) A) args s 0 0 A) (F0 m 16 ls [])) : ∀ (n : Nat) (lo : Nat → Int32) (x2 : Int32) (x3 : Int32) (x4 : Int32) (H : Heap) (locs : List Loc) (ls : Array Slot), p_X5_longest_34 wo le x1 post k16 n lo x2 x3 x4 → va_P D vwCl (wM k a mm nn we la si it be pa su wo le pp qq ro lo lp lq rp rq se no ne) H → va_D A (wM k a mm nn we la si it be pa su wo le pp qq ro lo lp lq rp rq se no ne) → va_S A s.heap H locs → lv_has ls 6 [(0, .ref (a 0)), (1, .int x1), (2, .int x2), (3, .int x3), (4, .int x4)] → W p l e ({ frames := 1, cells := 0, slots := 0, locals := 25 }) s m args below meth c H locs 0 0 (MQ below (va_Qi (fun (r : Int32) (u : (Nat → Int32)) => post r u) (fun u t => va_P D vwCl (wM k a mm nn we la si it be pa su wo le pp qq ro u lp lq rp rq se no ne) t.heap) A) args s 0 0 A) (F0 m 34 ls []) := by
  obtain ⟨hx, hb, hr, hts, hown, hlocks, hml⟩ := id C0
  intro n
  induction n with
  | zero =>
    intro lo x2 x3 x4 H locs ls hf
    exact False.elim hf
  | succ n ih =>
    intro lo x2 x3 x4 H locs ls hf hP hD hS hl
    unfold p_X5_longest_34 at hf
    refine lv_iload hx hb dX5_longest_34 (lv_at hl 4 rfl) ?_
    refine lv_iload_n hx hb dX5_longest_36 rfl (lv_at hl 3 rfl) ?_
    refine lv_icmp_ge (tgt := 135) hx hb dX5_longest_37 (by decide) (fun c_5 => ?_) (fun c_5 => ?_)
    · have hf := hf.1 c_5
      refine lv_iload_n hx hb dX5_longest_135 rfl (lv_at hl 2 rfl) ?_
      refine lv_aload_n hx hb dX5_longest_136 rfl (lv_at hl 0 rfl) ?_
      refine va_get (D := D) (ci := 5) (C := RX5) (T := TX5) (N := 22) hx hb hts in_X5_longest_X5 hown hG.1 hP 0 rfl rfl 14 (by decide) (hts _ lk_X5_longest_51) (fun _ h9 => h9) rfl dX5_longest_137 ?_
      refine lv_iload_n hx hb dX5_longest_140 rfl (lv_at hl 3 rfl) ?_
      obtain ⟨h_6, hf⟩ := hf
      refine va_iald hx hb hG.1 hP 12 0 rfl rfl h_6 dX5_longest_141 ?_
      have hp : xPerm (wM k a mm nn we la si it be pa su wo le pp qq ro lo lp lq rp rq se no ne) (([]) ++ (wM k a mm nn we la si it be pa su wo le pp qq ro lo lp lq rp rq se no ne)) := (List.Perm.refl _)
      refine xCallI (w := []) (r := wM k a mm nn we la si it be pa su wo le pp qq ro lo lp lq rp rq se no ne) (va_runS (As := [.int x2, .int (lo x3.toNatClampNeg)]) (rest := []) ⟨hx, hb, hml, hown, hts⟩ (c_X5_greater x2 (lo x3.toNatClampNeg) hf) (va_cwS 2 hts gX5_longest_X5_greater rfl rfl rfl (by decide +kernel) ⟨Nat.le_of_ble_eq_true rfl, Nat.le_of_ble_eq_true rfl⟩) (xPreS hG hP hD hp) rfl rfl hl.1 rfl (lv_room (Nat.le_of_ble_eq_true rfl)) dX5_longest_142 ⟨Nat.zero_le _, Nat.zero_le _⟩) hP hD hS hp (fun _ => rfl) (fun r_7 _ H locs hf hP hD hS => ?_)
      have hP : va_P D vwCl (wM k a mm nn we la si it be pa su wo le pp qq ro lo lp lq rp rq se no ne) H := hP
      have hD : va_D A (wM k a mm nn we la si it be pa su wo le pp qq ro lo lp lq rp rq se no ne) := hD
      refine lv_istore_n (lv' := [(2, .int r_7), (0, .ref (a 0)), (1, .int x1), (3, .int x3), (4, .int x4)]) hx hb dX5_longest_145 rfl hl (by decide) rfl (fun ls hl => ?_)
      refine lv_iinc (v := x3 + 1) (lv' := [(3, .int (x3 + 1)), (2, .int r_7), (0, .ref (a 0)), (1, .int x1), (4, .int x4)]) hx hb dX5_longest_146 hl (k := 3) rfl rfl (by decide) rfl (fun ls hl => ?_)
      refine lv_goto (tgt := 16) hx hb dX5_longest_149 (by decide) ?_
      exact hk16 lo r_7 (x3 + 1) _ _ _ hf hP hD hS (lv_sub hl [2, 3, 1, 0] rfl)
    · have hf := hf.2 c_5
      refine lv_iload_n hx hb dX5_longest_40 rfl (lv_at hl 1 rfl) ?_
      refine lv_if_ne (tgt := 68) hx hb dX5_longest_41 (by decide) (fun c_8 => ?_) (fun c_8 => ?_)
      · have hf := hf.2 c_8
        refine lv_aload_n hx hb dX5_longest_68 rfl (lv_at hl 0 rfl) ?_
        refine va_get (D := D) (ci := 5) (C := RX5) (T := TX5) (N := 22) hx hb hts in_X5_longest_X5 hown hG.1 hP 0 rfl rfl 9 (by decide) (hts _ lk_X5_longest_39) (fun _ h9 => h9) rfl dX5_longest_69 ?_
        refine lv_iload hx hb dX5_longest_72 (lv_at hl 4 rfl) ?_
        obtain ⟨h_9, hf⟩ := hf
        refine va_iald hx hb hG.1 hP 8 0 rfl rfl h_9 dX5_longest_74 ?_
        refine lv_aload_n hx hb dX5_longest_75 rfl (lv_at hl 0 rfl) ?_
        refine va_get (D := D) (ci := 5) (C := RX5) (T := TX5) (N := 22) hx hb hts in_X5_longest_X5 hown hG.1 hP 0 rfl rfl 9 (by decide) (hts _ lk_X5_longest_39) (fun _ h9 => h9) rfl dX5_longest_76 ?_
        refine lv_iload_n hx hb dX5_longest_79 rfl (lv_at hl 3 rfl) ?_
        obtain ⟨h_10, hf⟩ := hf
        refine va_iald hx hb hG.1 hP 8 0 rfl rfl h_10 dX5_longest_80 ?_
        refine lv_icmp_le (tgt := 88) hx hb dX5_longest_81 (by decide) (fun c_11 => ?_) (fun c_11 => ?_)
        · have hf := hf.1 c_11
          refine lv_iconst (v := 0) hx hb dX5_longest_88 (by decide) ?_
          exact k_X5_longest_89 C0 hG hk16 ih lo x2 x3 x4 0 _ _ _ hf hP hD hS (lv_sub hl [0, 1, 2, 3, 4] rfl)
        · have hf := hf.2 c_11
          refine lv_iconst (v := 1) hx hb dX5_longest_84 (by decide) ?_
          refine lv_goto (tgt := 89) hx hb dX5_longest_85 (by decide) ?_
          exact k_X5_longest_89 C0 hG hk16 ih lo x2 x3 x4 1 _ _ _ hf hP hD hS (lv_sub hl [0, 1, 2, 3, 4] rfl)
      · have hf := hf.1 c_8
        refine lv_aload_n hx hb dX5_longest_44 rfl (lv_at hl 0 rfl) ?_
        refine va_get (D := D) (ci := 5) (C := RX5) (T := TX5) (N := 22) hx hb hts in_X5_longest_X5 hown hG.1 hP 0 rfl rfl 9 (by decide) (hts _ lk_X5_longest_39) (fun _ h9 => h9) rfl dX5_longest_45 ?_
        refine lv_iload hx hb dX5_longest_48 (lv_at hl 4 rfl) ?_
        obtain ⟨h_18, hf⟩ := hf
        refine va_iald hx hb hG.1 hP 8 0 rfl rfl h_18 dX5_longest_50 ?_
        refine lv_aload_n hx hb dX5_longest_51 rfl (lv_at hl 0 rfl) ?_
        refine va_get (D := D) (ci := 5) (C := RX5) (T := TX5) (N := 22) hx hb hts in_X5_longest_X5 hown hG.1 hP 0 rfl rfl 9 (by decide) (hts _ lk_X5_longest_39) (fun _ h9 => h9) rfl dX5_longest_52 ?_
        refine lv_iload_n hx hb dX5_longest_55 rfl (lv_at hl 3 rfl) ?_
        obtain ⟨h_19, hf⟩ := hf
        refine va_iald hx hb hG.1 hP 8 0 rfl rfl h_19 dX5_longest_56 ?_
        refine lv_icmp_gt (tgt := 64) hx hb dX5_longest_57 (by decide) (fun c_20 => ?_) (fun c_20 => ?_)
        · have hf := hf.1 c_20
          refine lv_iconst (v := 0) hx hb dX5_longest_64 (by decide) ?_
          refine lv_goto (tgt := 89) hx hb dX5_longest_65 (by decide) ?_
          exact k_X5_longest_89 C0 hG hk16 ih lo x2 x3 x4 0 _ _ _ hf hP hD hS (lv_sub hl [0, 1, 2, 3, 4] rfl)
        · have hf := hf.2 c_20
          refine lv_iconst (v := 1) hx hb dX5_longest_60 (by decide) ?_
          refine lv_goto (tgt := 89) hx hb dX5_longest_61 (by decide) ?_
          exact k_X5_longest_89 C0 hG hk16 ih lo x2 x3 x4 1 _ _ _ hf hP hD hS (lv_sub hl [0, 1, 2, 3, 4] rfl)
set_option maxHeartbeats 4000000 in
set_option maxRecDepth 100000 in
theorem k_X5_longest_16 {p : Program} {l : Launch} {e : Env} {s : State} {m : MethodId} {args : Array Value} {below : List Frame} {meth : Method} {c : Code} {A : Nat → Prop} {D : va_G} {k : Nat → ClassId} {a : Nat → Nat} {mm : Int32} {nn : Int32} {we : Nat → Int32} {la : Nat → Int32} {si : Nat → Int32} {it : Nat → Int32} {be : Nat → Int32} {pa : Nat → Int32} {su : Nat → Int64} {wo : Nat → Int32} {le : Int32} {pp : Nat → Int32} {qq : Nat → Int32} {ro : Nat → Int32} {lp : Nat → Int32} {lq : Nat → Int32} {rp : Nat → Int32} {rq : Nat → Int32} {se : Nat → Int32} {no : Nat → Int64} {ne : Nat → Int64} {x1 : Int32} (C0 : xM p s m args meth c cX5_longest 6 RX5 (some .int) wsX5_longest) (hG : xG D k s) {post : Int32 → (Nat → Int32) → Prop} : ∀ (n : Nat) (lo : Nat → Int32) (x2 : Int32) (x3 : Int32) (H : Heap) (locs : List Loc) (ls : Array Slot), p_X5_longest_16 wo le x1 post n lo x2 x3 → va_P D vwCl (wM k a mm nn we la si it be pa su wo le pp qq ro lo lp lq rp rq se no ne) H → va_D A (wM k a mm nn we la si it be pa su wo le pp qq ro lo lp lq rp rq se no ne) → va_S A s.heap H locs → lv_has ls 6 [(0, .ref (a 0)), (1, .int x1), (2, .int x2), (3, .int x3)] → W p l e ({ frames := 1, cells := 0, slots := 0, locals := 25 }) s m args below meth c H locs 0 0 (MQ below (va_Qi (fun (r : Int32) (u : (Nat → Int32)) => post r u) (fun u t => va_P D vwCl (wM k a mm nn we la si it be pa su wo le pp qq ro u lp lq rp rq se no ne) t.heap) A) args s 0 0 A) (F0 m 16 ls []) := by
  obtain ⟨hx, hb, hr, hts, hown, hlocks, hml⟩ := id C0
  intro n
  induction n with
  | zero =>
    intro lo x2 x3 H locs ls hf
    exact False.elim hf
  | succ n ih =>
    intro lo x2 x3 H locs ls hf hP hD hS hl
    unfold p_X5_longest_16 at hf
    refine lv_iload_n hx hb dX5_longest_16 rfl (lv_at hl 3 rfl) ?_
    refine lv_aload_n hx hb dX5_longest_17 rfl (lv_at hl 0 rfl) ?_
    refine va_get (D := D) (ci := 5) (C := RX5) (T := TX5) (N := 22) hx hb hts in_X5_longest_X5 hown hG.1 hP 0 rfl rfl 10 (by decide) (hts _ lk_X5_longest_110) (fun _ h9 => h9) rfl dX5_longest_18 ?_
    refine lv_icmp_ge (tgt := 152) hx hb dX5_longest_21 (by decide) (fun c_3 => ?_) (fun c_3 => ?_)
    · have hf := hf.1 c_3
      refine lv_iload_n hx hb dX5_longest_152 rfl (lv_at hl 2 rfl) ?_
      exact W.iret (v := x2) hx hb hr (fun t ht hW => ⟨⟨x2, lo, rfl, hf, xHp ht hP⟩, hS.F ht⟩) hS.2.2 dX5_longest_153 hlocks
    · have hf := hf.2 c_3
      refine lv_aload_n hx hb dX5_longest_24 rfl (lv_at hl 0 rfl) ?_
      refine va_get (D := D) (ci := 5) (C := RX5) (T := TX5) (N := 22) hx hb hts in_X5_longest_X5 hown hG.1 hP 0 rfl rfl 14 (by decide) (hts _ lk_X5_longest_51) (fun _ h9 => h9) rfl dX5_longest_25 ?_
      refine lv_iload_n hx hb dX5_longest_28 rfl (lv_at hl 3 rfl) ?_
      refine lv_iconst (v := 1) hx hb dX5_longest_29 (by decide) ?_
      obtain ⟨h_4, hf⟩ := hf
      refine va_iast hx hb hG.1 hP hD hS 12 0 rfl rfl h_4 dX5_longest_30 (fun H locs hP hD hS => ?_)
      have hP : va_P D vwCl (wM k a mm nn we la si it be pa su wo le pp qq ro (upd lo (x3.toNatClampNeg) 1) lp lq rp rq se no ne) H := hP
      have hD : va_D A (wM k a mm nn we la si it be pa su wo le pp qq ro (upd lo (x3.toNatClampNeg) 1) lp lq rp rq se no ne) := hD
      refine lv_iconst (v := 0) hx hb dX5_longest_31 (by decide) ?_
      refine lv_istore (lv' := [(4, .int 0), (0, .ref (a 0)), (1, .int x1), (2, .int x2), (3, .int x3)]) hx hb dX5_longest_32 hl (by decide) rfl (fun ls hl => ?_)
      obtain ⟨n_21, hf⟩ := hf
      exact k_X5_longest_34 C0 hG ih n_21 (upd lo (x3.toNatClampNeg) 1) x2 x3 0 _ _ _ hf hP hD hS (lv_sub hl [1, 2, 3, 4, 0] rfl)
set_option maxHeartbeats 4000000 in
set_option maxRecDepth 100000 in
theorem c_X5_longest {l : Launch} {D : va_G} {k : Nat → ClassId} (a : Nat → Nat) (mm : Int32) (nn : Int32) (we : Nat → Int32) (la : Nat → Int32) (si : Nat → Int32) (it : Nat → Int32) (be : Nat → Int32) (pa : Nat → Int32) (su : Nat → Int64) (wo : Nat → Int32) (le : Int32) (pp : Nat → Int32) (qq : Nat → Int32) (ro : Nat → Int32) (lo : Nat → Int32) (lp : Nat → Int32) (lq : Nat → Int32) (rp : Nat → Int32) (rq : Nat → Int32) (se : Nat → Int32) (no : Nat → Int64) (ne : Nat → Int64) (x1 : Int32) {post : Int32 → (Nat → Int32) → Prop} (hf : p_X5_longest wo le lo x1 post) : ctI l yX5_longest wsX5_longest ({ frames := 1, cells := 0, slots := 0, locals := 25 }) D k [.ref (a 0), .int x1] (wM k a mm nn we la si it be pa su wo le pp qq ro lo lp lq rp rq se no ne) (fun u : (Nat → Int32) => wM k a mm nn we la si it be pa su wo le pp qq ro u lp lq rp rq se no ne) (fun (r : Int32) (u : (Nat → Int32)) => post r u) := by
  refine Met.ofW (cc := cX5_longest) (maxL := 6) (ret := (some .int)) (by decide) rfl ?_
  intro p e s m args below meth c s₁ B hml hv
  obtain ⟨rfl, hP, hG, hD0⟩ := hv
  have C0 : xM p s m ([.ref (a 0), .int x1] : List Value).toArray meth c cX5_longest 6 RX5 (some .int) wsX5_longest := ⟨B.exec, B.bytes, B.returns, atoms_spec (ws := wsX5_longest) B.pre, findClass_of_methodNamed B.named, B.notSynchronized, hml⟩
  obtain ⟨hx, hb, hr, hts, hown, hlocks, hml⟩ := id C0
  have hD := xSelf hD0
  have hS : va_S (xIn (wM k a mm nn we la si it be pa su wo le pp qq ro lo lp lq rp rq se no ne)) s.heap s.heap [] := va_S.rf
  generalize xIn (wM k a mm nn we la si it be pa su wo le pp qq ro lo lp lq rp rq se no ne) = A at hD hS ⊢
  have hl := lv_entry ([.ref (a 0), .int x1]) (n := 6) (Nat.le_of_ble_eq_true rfl)
  rw [lg_entry_eq]
  generalize (lg_sl ([.ref (a 0), .int x1]) ++ List.replicate (6 - (lg_sl ([.ref (a 0), .int x1])).length) Slot.unset).toArray = ls at hl ⊢
  have hl : lv_has ls 6 [(0, .ref (a 0)), (1, .int x1)] := hl
  unfold p_X5_longest at hf
  refine lv_iload_n hx hb dX5_longest_0 rfl (lv_at hl 1 rfl) ?_
  refine lv_i2l (v := x1.toInt64) hx hb dX5_longest_1 rfl ?_
  refine lv_lconst (v := 0) hx hb dX5_longest_2 (by decide) ?_
  refine lv_lconst (v := 1) hx hb dX5_longest_3 (by decide) ?_
  have hp : xPerm (wM k a mm nn we la si it be pa su wo le pp qq ro lo lp lq rp rq se no ne) (([]) ++ (wM k a mm nn we la si it be pa su wo le pp qq ro lo lp lq rp rq se no ne)) := (List.Perm.refl _)
  refine xCallI (w := []) (r := wM k a mm nn we la si it be pa su wo le pp qq ro lo lp lq rp rq se no ne) (va_runS (As := [.long (x1.toInt64), .long 0, .long 1]) (rest := []) ⟨hx, hb, hml, hown, hts⟩ (c_X5_in (x1.toInt64) 0 1 hf) (va_cwS 3 hts gX5_longest_X5_in rfl rfl rfl (by decide +kernel) ⟨Nat.le_of_ble_eq_true rfl, Nat.le_of_ble_eq_true rfl⟩) (xPreS hG hP hD hp) rfl rfl hl.1 rfl (lv_room (Nat.le_of_ble_eq_true rfl)) dX5_longest_4 ⟨Nat.zero_le _, Nat.zero_le _⟩) hP hD hS hp (fun _ => rfl) (fun r_1 _ H locs hf hP hD hS => ?_)
  have hP : va_P D vwCl (wM k a mm nn we la si it be pa su wo le pp qq ro lo lp lq rp rq se no ne) H := hP
  have hD : va_D A (wM k a mm nn we la si it be pa su wo le pp qq ro lo lp lq rp rq se no ne) := hD
  refine lv_if_ne (tgt := 12) hx hb dX5_longest_7 (by decide) (fun c_2 => ?_) (fun c_2 => ?_)
  · have hf := hf.2 c_2
    refine lv_iconst (v := 0) hx hb dX5_longest_12 (by decide) ?_
    refine lv_istore_n (lv' := [(2, .int 0), (0, .ref (a 0)), (1, .int x1)]) hx hb dX5_longest_13 rfl hl (by decide) rfl (fun ls hl => ?_)
    refine lv_iconst (v := 0) hx hb dX5_longest_14 (by decide) ?_
    refine lv_istore_n (lv' := [(3, .int 0), (2, .int 0), (0, .ref (a 0)), (1, .int x1)]) hx hb dX5_longest_15 rfl hl (by decide) rfl (fun ls hl => ?_)
    obtain ⟨n_22, hf⟩ := hf
    exact k_X5_longest_16 C0 hG n_22 lo 0 0 _ _ _ hf hP hD hS (lv_sub hl [2, 3, 1, 0] rfl)
  · have hf := hf.1 c_2
    refine lv_iconst (v := (-1)) hx hb dX5_longest_10 (by decide) ?_
    exact W.iret (v := (-1)) hx hb hr (fun t ht hW => ⟨⟨((-1) : Int32), lo, rfl, hf, xHp ht hP⟩, hS.F ht⟩) hS.2.2 dX5_longest_11 hlocks

def p_X5_total_4 (f : Nat → Int32) (post : Int32 → Prop) : Nat → Int32 → Int32 → Prop
  | 0, _, _ => False
  | n + 1, x1, x2 => ((9 ≤ x2 → post x1) ∧ (¬ 9 ≤ x2 → (vp_in x2 9 ∧ p_X5_total_4 f post n (x1 + (f x2.toNatClampNeg)) (x2 + 1))))
def p_X5_total (f : Nat → Int32) (post : Int32 → Prop) : Prop := (∃ n_3, p_X5_total_4 f post n_3 0 0)
set_option maxHeartbeats 4000000 in
set_option maxRecDepth 100000 in
theorem k_X5_total_4 {p : Program} {l : Launch} {e : Env} {s : State} {m : MethodId} {args : Array Value} {below : List Frame} {meth : Method} {c : Code} {A : Nat → Prop} {D : va_G} {k : Nat → ClassId} {d : Nat} {f : Nat → Int32} (C0 : xM p s m args meth c cX5_total 3 RX5 (some .int) wsX5_total) (hG : xG D k s) {post : Int32 → Prop} : ∀ (n : Nat) (x1 : Int32) (x2 : Int32) (H : Heap) (locs : List Loc) (ls : Array Slot), p_X5_total_4 f post n x1 x2 → va_P D vwCl ([((d, .inl (k 0, 9, .inl f)) : Nat × va_E)]) H → va_D A ([((d, .inl (k 0, 9, .inl f)) : Nat × va_E)]) → va_S A s.heap H locs → lv_has ls 3 [(0, .ref d), (1, .int x1), (2, .int x2)] → W p l e ({ frames := 0, cells := 0, slots := 0, locals := 0 }) s m args below meth c H locs 0 0 (MQ below (va_Qi (fun (r : Int32) (u : Unit) => post r) (fun u t => va_P D vwCl ([((d, .inl (k 0, 9, .inl f)) : Nat × va_E)]) t.heap) A) args s 0 0 A) (F0 m 4 ls []) := by
  obtain ⟨hx, hb, hr, hts, hown, hlocks, hml⟩ := id C0
  intro n
  induction n with
  | zero =>
    intro x1 x2 H locs ls hf
    exact False.elim hf
  | succ n ih =>
    intro x1 x2 H locs ls hf hP hD hS hl
    unfold p_X5_total_4 at hf
    refine lv_iload_n hx hb dX5_total_4 rfl (lv_at hl 2 rfl) ?_
    refine lv_bipush (v := 9) hx hb dX5_total_5 (by decide) ?_
    refine lv_icmp_ge (tgt := 22) hx hb dX5_total_7 (by decide) (fun c_1 => ?_) (fun c_1 => ?_)
    · have hf := hf.1 c_1
      refine lv_iload_n hx hb dX5_total_22 rfl (lv_at hl 1 rfl) ?_
      exact W.iret (v := x1) hx hb hr (fun t ht hW => ⟨⟨x1, (), rfl, hf, xHp ht hP⟩, hS.F ht⟩) hS.2.2 dX5_total_23 hlocks
    · have hf := hf.2 c_1
      refine lv_iload_n hx hb dX5_total_10 rfl (lv_at hl 1 rfl) ?_
      refine lv_aload_n hx hb dX5_total_11 rfl (lv_at hl 0 rfl) ?_
      refine lv_iload_n hx hb dX5_total_12 rfl (lv_at hl 2 rfl) ?_
      obtain ⟨h_2, hf⟩ := hf
      refine va_iald hx hb hG.1 hP 0 0 rfl rfl h_2 dX5_total_13 ?_
      refine lv_iadd hx hb dX5_total_14 ?_
      refine lv_istore_n (lv' := [(1, .int (x1 + (f x2.toNatClampNeg))), (0, .ref d), (2, .int x2)]) hx hb dX5_total_15 rfl hl (by decide) rfl (fun ls hl => ?_)
      refine lv_iinc (v := x2 + 1) (lv' := [(2, .int (x2 + 1)), (1, .int (x1 + (f x2.toNatClampNeg))), (0, .ref d)]) hx hb dX5_total_16 hl (k := 2) rfl rfl (by decide) rfl (fun ls hl => ?_)
      refine lv_goto (tgt := 4) hx hb dX5_total_19 (by decide) ?_
      exact ih (x1 + (f x2.toNatClampNeg)) (x2 + 1) _ _ _ hf hP hD hS (lv_sub hl [2, 1, 0] rfl)
set_option maxHeartbeats 4000000 in
set_option maxRecDepth 100000 in
theorem c_X5_total {l : Launch} {D : va_G} {k : Nat → ClassId} (d : Nat) (f : Nat → Int32) {post : Int32 → Prop} (hf : p_X5_total f post) : ctI l yX5_total wsX5_total ({ frames := 0, cells := 0, slots := 0, locals := 0 }) D k [.ref d] ([((d, .inl (k 0, 9, .inl f)) : Nat × va_E)]) (fun u : Unit => [((d, .inl (k 0, 9, .inl f)) : Nat × va_E)]) (fun (r : Int32) (u : Unit) => post r) := by
  refine Met.ofW (cc := cX5_total) (maxL := 3) (ret := (some .int)) (by decide) rfl ?_
  intro p e s m args below meth c s₁ B hml hv
  obtain ⟨rfl, hP, hG, hD0⟩ := hv
  have C0 : xM p s m ([.ref d] : List Value).toArray meth c cX5_total 3 RX5 (some .int) wsX5_total := ⟨B.exec, B.bytes, B.returns, atoms_spec (ws := wsX5_total) B.pre, findClass_of_methodNamed B.named, B.notSynchronized, hml⟩
  obtain ⟨hx, hb, hr, hts, hown, hlocks, hml⟩ := id C0
  have hD := xSelf hD0
  have hS : va_S (xIn ([((d, .inl (k 0, 9, .inl f)) : Nat × va_E)])) s.heap s.heap [] := va_S.rf
  generalize xIn ([((d, .inl (k 0, 9, .inl f)) : Nat × va_E)]) = A at hD hS ⊢
  have hl := lv_entry ([.ref d]) (n := 3) (Nat.le_of_ble_eq_true rfl)
  rw [lg_entry_eq]
  generalize (lg_sl ([.ref d]) ++ List.replicate (3 - (lg_sl ([.ref d])).length) Slot.unset).toArray = ls at hl ⊢
  have hl : lv_has ls 3 [(0, .ref d)] := hl
  unfold p_X5_total at hf
  refine lv_iconst (v := 0) hx hb dX5_total_0 (by decide) ?_
  refine lv_istore_n (lv' := [(1, .int 0), (0, .ref d)]) hx hb dX5_total_1 rfl hl (by decide) rfl (fun ls hl => ?_)
  refine lv_iconst (v := 0) hx hb dX5_total_2 (by decide) ?_
  refine lv_istore_n (lv' := [(2, .int 0), (1, .int 0), (0, .ref d)]) hx hb dX5_total_3 rfl hl (by decide) rfl (fun ls hl => ?_)
  obtain ⟨n_3, hf⟩ := hf
  exact k_X5_total_4 C0 hG n_3 0 0 _ _ _ hf hP hD hS (lv_sub hl [2, 1, 0] rfl)

def p_X5_manyRows_2 (f : Nat → Int32) (post : Int32 → Prop) : Nat → Int32 → Prop
  | 0, _ => False
  | n + 1, x1 => ((9 ≤ x1 → post x1) ∧ (¬ 9 ≤ x1 → (vp_in x1 9 ∧ (((f x1.toNatClampNeg) ≤ 0 → post x1) ∧ (¬ (f x1.toNatClampNeg) ≤ 0 → p_X5_manyRows_2 f post n (x1 + 1))))))
def p_X5_manyRows (f : Nat → Int32) (post : Int32 → Prop) : Prop := (∃ n_4, p_X5_manyRows_2 f post n_4 0)
set_option maxHeartbeats 4000000 in
set_option maxRecDepth 100000 in
theorem k_X5_manyRows_2 {p : Program} {l : Launch} {e : Env} {s : State} {m : MethodId} {args : Array Value} {below : List Frame} {meth : Method} {c : Code} {A : Nat → Prop} {D : va_G} {k : Nat → ClassId} {d : Nat} {f : Nat → Int32} (C0 : xM p s m args meth c cX5_manyRows 2 RX5 (some .int) wsX5_manyRows) (hG : xG D k s) {post : Int32 → Prop} : ∀ (n : Nat) (x1 : Int32) (H : Heap) (locs : List Loc) (ls : Array Slot), p_X5_manyRows_2 f post n x1 → va_P D vwCl ([((d, .inl (k 0, 9, .inl f)) : Nat × va_E)]) H → va_D A ([((d, .inl (k 0, 9, .inl f)) : Nat × va_E)]) → va_S A s.heap H locs → lv_has ls 2 [(0, .ref d), (1, .int x1)] → W p l e ({ frames := 0, cells := 0, slots := 0, locals := 0 }) s m args below meth c H locs 0 0 (MQ below (va_Qi (fun (r : Int32) (u : Unit) => post r) (fun u t => va_P D vwCl ([((d, .inl (k 0, 9, .inl f)) : Nat × va_E)]) t.heap) A) args s 0 0 A) (F0 m 2 ls []) := by
  obtain ⟨hx, hb, hr, hts, hown, hlocks, hml⟩ := id C0
  intro n
  induction n with
  | zero =>
    intro x1 H locs ls hf
    exact False.elim hf
  | succ n ih =>
    intro x1 H locs ls hf hP hD hS hl
    unfold p_X5_manyRows_2 at hf
    refine lv_iload_n hx hb dX5_manyRows_2 rfl (lv_at hl 1 rfl) ?_
    refine lv_bipush (v := 9) hx hb dX5_manyRows_3 (by decide) ?_
    refine lv_icmp_ge (tgt := 20) hx hb dX5_manyRows_5 (by decide) (fun c_1 => ?_) (fun c_1 => ?_)
    · have hf := hf.1 c_1
      refine lv_iload_n hx hb dX5_manyRows_20 rfl (lv_at hl 1 rfl) ?_
      exact W.iret (v := x1) hx hb hr (fun t ht hW => ⟨⟨x1, (), rfl, hf, xHp ht hP⟩, hS.F ht⟩) hS.2.2 dX5_manyRows_21 hlocks
    · have hf := hf.2 c_1
      refine lv_aload_n hx hb dX5_manyRows_8 rfl (lv_at hl 0 rfl) ?_
      refine lv_iload_n hx hb dX5_manyRows_9 rfl (lv_at hl 1 rfl) ?_
      obtain ⟨h_2, hf⟩ := hf
      refine va_iald hx hb hG.1 hP 0 0 rfl rfl h_2 dX5_manyRows_10 ?_
      refine lv_if_le (tgt := 20) hx hb dX5_manyRows_11 (by decide) (fun c_3 => ?_) (fun c_3 => ?_)
      · have hf := hf.1 c_3
        refine lv_iload_n hx hb dX5_manyRows_20 rfl (lv_at hl 1 rfl) ?_
        exact W.iret (v := x1) hx hb hr (fun t ht hW => ⟨⟨x1, (), rfl, hf, xHp ht hP⟩, hS.F ht⟩) hS.2.2 dX5_manyRows_21 hlocks
      · have hf := hf.2 c_3
        refine lv_iinc (v := x1 + 1) (lv' := [(1, .int (x1 + 1)), (0, .ref d)]) hx hb dX5_manyRows_14 hl (k := 1) rfl rfl (by decide) rfl (fun ls hl => ?_)
        refine lv_goto (tgt := 2) hx hb dX5_manyRows_17 (by decide) ?_
        exact ih (x1 + 1) _ _ _ hf hP hD hS (lv_sub hl [1, 0] rfl)
set_option maxHeartbeats 4000000 in
set_option maxRecDepth 100000 in
theorem c_X5_manyRows {l : Launch} {D : va_G} {k : Nat → ClassId} (d : Nat) (f : Nat → Int32) {post : Int32 → Prop} (hf : p_X5_manyRows f post) : ctI l yX5_manyRows wsX5_manyRows ({ frames := 0, cells := 0, slots := 0, locals := 0 }) D k [.ref d] ([((d, .inl (k 0, 9, .inl f)) : Nat × va_E)]) (fun u : Unit => [((d, .inl (k 0, 9, .inl f)) : Nat × va_E)]) (fun (r : Int32) (u : Unit) => post r) := by
  refine Met.ofW (cc := cX5_manyRows) (maxL := 2) (ret := (some .int)) (by decide) rfl ?_
  intro p e s m args below meth c s₁ B hml hv
  obtain ⟨rfl, hP, hG, hD0⟩ := hv
  have C0 : xM p s m ([.ref d] : List Value).toArray meth c cX5_manyRows 2 RX5 (some .int) wsX5_manyRows := ⟨B.exec, B.bytes, B.returns, atoms_spec (ws := wsX5_manyRows) B.pre, findClass_of_methodNamed B.named, B.notSynchronized, hml⟩
  obtain ⟨hx, hb, hr, hts, hown, hlocks, hml⟩ := id C0
  have hD := xSelf hD0
  have hS : va_S (xIn ([((d, .inl (k 0, 9, .inl f)) : Nat × va_E)])) s.heap s.heap [] := va_S.rf
  generalize xIn ([((d, .inl (k 0, 9, .inl f)) : Nat × va_E)]) = A at hD hS ⊢
  have hl := lv_entry ([.ref d]) (n := 2) (Nat.le_of_ble_eq_true rfl)
  rw [lg_entry_eq]
  generalize (lg_sl ([.ref d]) ++ List.replicate (2 - (lg_sl ([.ref d])).length) Slot.unset).toArray = ls at hl ⊢
  have hl : lv_has ls 2 [(0, .ref d)] := hl
  unfold p_X5_manyRows at hf
  refine lv_iconst (v := 0) hx hb dX5_manyRows_0 (by decide) ?_
  refine lv_istore_n (lv' := [(1, .int 0), (0, .ref d)]) hx hb dX5_manyRows_1 rfl hl (by decide) rfl (fun ls hl => ?_)
  obtain ⟨n_4, hf⟩ := hf
  exact k_X5_manyRows_2 C0 hG n_4 0 _ _ _ hf hP hD hS (lv_sub hl [1, 0] rfl)

def p_X5_lay (lp : Nat → Int32) (lq : Nat → Int32) (rp : Nat → Int32) (rq : Nat → Int32) (x1 : Int32) (x2 : Int32) (x3 : Int32) (post : Int32 → (Nat → Int32) → (Nat → Int32) → (Nat → Int32) → (Nat → Int32) → Prop) : Prop := p_X5_in (x1.toInt64) 0 1 (fun r_1 => ((r_1 = 0 → post (-1) lp lq rp rq) ∧ (¬ r_1 = 0 → p_X5_in (x3.toInt64) 1 40 (fun r_3 => ((r_3 = 0 → post (-1) lp lq rp rq) ∧ (¬ r_3 = 0 → p_X5_in (x2.toInt64) 0 8 (fun r_5 => ((r_5 = 0 → post (-1) lp lq rp rq) ∧ (¬ r_5 = 0 → ((x1 = 0 → ((x1 = 0 → p_X5_manyRows rp (fun r_37 => ((x2 ≤ r_37 → p_X5_total rp (fun r_39 => ((r_39 = 40 → post (-3) lp lq rp rq) ∧ (¬ r_39 = 40 → (vp_in x2 9 ∧ (vp_in ((40 * x2) + (rp x2.toNatClampNeg)) 360 ∧ (vp_in x2 9 ∧ (vp_in x2 9 ∧ (vp_in x2 9 ∧ post ((upd rp (x2.toNatClampNeg) ((rp x2.toNatClampNeg) + 1)) x2.toNatClampNeg) (upd lp (((40 * x2) + (rp x2.toNatClampNeg)).toNatClampNeg) x3) lq (upd rp (x2.toNatClampNeg) ((rp x2.toNatClampNeg) + 1)) rq))))))))) ∧ (¬ x2 ≤ r_37 → post (-1) lp lq rp rq)))) ∧ (¬ x1 = 0 → p_X5_manyRows rp (fun r_28 => ((x2 ≤ r_28 → p_X5_total rp (fun r_30 => ((r_30 = 40 → post (-3) lp lq rp rq) ∧ (¬ r_30 = 40 → (vp_in x2 9 ∧ (vp_in ((40 * x2) + (rp x2.toNatClampNeg)) 360 ∧ (vp_in x2 9 ∧ (vp_in x2 9 ∧ (vp_in x2 9 ∧ post ((upd rp (x2.toNatClampNeg) ((rp x2.toNatClampNeg) + 1)) x2.toNatClampNeg) lp (upd lq (((40 * x2) + (rp x2.toNatClampNeg)).toNatClampNeg) x3) (upd rp (x2.toNatClampNeg) ((rp x2.toNatClampNeg) + 1)) rq))))))))) ∧ (¬ x2 ≤ r_28 → post (-1) lp lq rp rq)))))) ∧ (¬ x1 = 0 → ((x1 = 0 → p_X5_manyRows rq (fun r_18 => ((x2 ≤ r_18 → p_X5_total rq (fun r_20 => ((r_20 = 40 → post (-3) lp lq rp rq) ∧ (¬ r_20 = 40 → (vp_in x2 9 ∧ (vp_in ((40 * x2) + (rq x2.toNatClampNeg)) 360 ∧ (vp_in x2 9 ∧ (vp_in x2 9 ∧ (vp_in x2 9 ∧ post ((upd rq (x2.toNatClampNeg) ((rq x2.toNatClampNeg) + 1)) x2.toNatClampNeg) (upd lp (((40 * x2) + (rq x2.toNatClampNeg)).toNatClampNeg) x3) lq rp (upd rq (x2.toNatClampNeg) ((rq x2.toNatClampNeg) + 1))))))))))) ∧ (¬ x2 ≤ r_18 → post (-1) lp lq rp rq)))) ∧ (¬ x1 = 0 → p_X5_manyRows rq (fun r_9 => ((x2 ≤ r_9 → p_X5_total rq (fun r_11 => ((r_11 = 40 → post (-3) lp lq rp rq) ∧ (¬ r_11 = 40 → (vp_in x2 9 ∧ (vp_in ((40 * x2) + (rq x2.toNatClampNeg)) 360 ∧ (vp_in x2 9 ∧ (vp_in x2 9 ∧ (vp_in x2 9 ∧ post ((upd rq (x2.toNatClampNeg) ((rq x2.toNatClampNeg) + 1)) x2.toNatClampNeg) lp (upd lq (((40 * x2) + (rq x2.toNatClampNeg)).toNatClampNeg) x3) rp (upd rq (x2.toNatClampNeg) ((rq x2.toNatClampNeg) + 1))))))))))) ∧ (¬ x2 ≤ r_9 → post (-1) lp lq rp rq))))))))))))))))
theorem in_X5_lay_X5 : ∀ w ∈ u_ws RX5 TX5 22, w ∈ wsX5_lay := by decide +kernel
theorem lk_X5_lay_54 : Cond.fieldLink RX5 54 "GrowingCornersModel" "laidP" "[I" ∈ wsX5_lay := by decide +kernel
theorem lk_X5_lay_57 : Cond.fieldLink RX5 57 "GrowingCornersModel" "laidQ" "[I" ∈ wsX5_lay := by decide +kernel
theorem lk_X5_lay_60 : Cond.fieldLink RX5 60 "GrowingCornersModel" "rowsP" "[I" ∈ wsX5_lay := by decide +kernel
theorem lk_X5_lay_63 : Cond.fieldLink RX5 63 "GrowingCornersModel" "rowsQ" "[I" ∈ wsX5_lay := by decide +kernel
theorem mb_X5_lay_cl116 : Cond.constantLong RX5 116 (8) ∈ wsX5_lay := by decide +kernel
theorem mb_X5_lay_cl121 : Cond.constantLong RX5 121 (40) ∈ wsX5_lay := by decide +kernel
set_option maxHeartbeats 4000000 in
set_option maxRecDepth 100000 in
theorem c_X5_lay {l : Launch} {D : va_G} {k : Nat → ClassId} (a : Nat → Nat) (mm : Int32) (nn : Int32) (we : Nat → Int32) (la : Nat → Int32) (si : Nat → Int32) (it : Nat → Int32) (be : Nat → Int32) (pa : Nat → Int32) (su : Nat → Int64) (wo : Nat → Int32) (le : Int32) (pp : Nat → Int32) (qq : Nat → Int32) (ro : Nat → Int32) (lo : Nat → Int32) (lp : Nat → Int32) (lq : Nat → Int32) (rp : Nat → Int32) (rq : Nat → Int32) (se : Nat → Int32) (no : Nat → Int64) (ne : Nat → Int64) (x1 : Int32) (x2 : Int32) (x3 : Int32) {post : Int32 → (Nat → Int32) → (Nat → Int32) → (Nat → Int32) → (Nat → Int32) → Prop} (hf : p_X5_lay lp lq rp rq x1 x2 x3 post) : ctI l yX5_lay wsX5_lay ({ frames := 1, cells := 0, slots := 0, locals := 25 }) D k [.ref (a 0), .int x1, .int x2, .int x3] (wM k a mm nn we la si it be pa su wo le pp qq ro lo lp lq rp rq se no ne) (fun u : (Nat → Int32) × (Nat → Int32) × (Nat → Int32) × (Nat → Int32) => wM k a mm nn we la si it be pa su wo le pp qq ro lo (u.1) (u.2.1) (u.2.2.1) (u.2.2.2) se no ne) (fun (r : Int32) (u : (Nat → Int32) × (Nat → Int32) × (Nat → Int32) × (Nat → Int32)) => post r u.1 u.2.1 u.2.2.1 u.2.2.2) := by
  refine Met.ofW (cc := cX5_lay) (maxL := 6) (ret := (some .int)) (by decide) rfl ?_
  intro p e s m args below meth c s₁ B hml hv
  obtain ⟨rfl, hP, hG, hD0⟩ := hv
  have C0 : xM p s m ([.ref (a 0), .int x1, .int x2, .int x3] : List Value).toArray meth c cX5_lay 6 RX5 (some .int) wsX5_lay := ⟨B.exec, B.bytes, B.returns, atoms_spec (ws := wsX5_lay) B.pre, findClass_of_methodNamed B.named, B.notSynchronized, hml⟩
  obtain ⟨hx, hb, hr, hts, hown, hlocks, hml⟩ := id C0
  have hD := xSelf hD0
  have hS : va_S (xIn (wM k a mm nn we la si it be pa su wo le pp qq ro lo lp lq rp rq se no ne)) s.heap s.heap [] := va_S.rf
  generalize xIn (wM k a mm nn we la si it be pa su wo le pp qq ro lo lp lq rp rq se no ne) = A at hD hS ⊢
  have hl := lv_entry ([.ref (a 0), .int x1, .int x2, .int x3]) (n := 6) (Nat.le_of_ble_eq_true rfl)
  rw [lg_entry_eq]
  generalize (lg_sl ([.ref (a 0), .int x1, .int x2, .int x3]) ++ List.replicate (6 - (lg_sl ([.ref (a 0), .int x1, .int x2, .int x3])).length) Slot.unset).toArray = ls at hl ⊢
  have hl : lv_has ls 6 [(0, .ref (a 0)), (1, .int x1), (2, .int x2), (3, .int x3)] := hl
  unfold p_X5_lay at hf
  refine lv_iload_n hx hb dX5_lay_0 rfl (lv_at hl 1 rfl) ?_
  refine lv_i2l (v := x1.toInt64) hx hb dX5_lay_1 rfl ?_
  refine lv_lconst (v := 0) hx hb dX5_lay_2 (by decide) ?_
  refine lv_lconst (v := 1) hx hb dX5_lay_3 (by decide) ?_
  have hp : xPerm (wM k a mm nn we la si it be pa su wo le pp qq ro lo lp lq rp rq se no ne) (([]) ++ (wM k a mm nn we la si it be pa su wo le pp qq ro lo lp lq rp rq se no ne)) := (List.Perm.refl _)
  refine xCallI (w := []) (r := wM k a mm nn we la si it be pa su wo le pp qq ro lo lp lq rp rq se no ne) (va_runS (As := [.long (x1.toInt64), .long 0, .long 1]) (rest := []) ⟨hx, hb, hml, hown, hts⟩ (c_X5_in (x1.toInt64) 0 1 hf) (va_cwS 3 hts gX5_lay_X5_in rfl rfl rfl (by decide +kernel) ⟨Nat.le_of_ble_eq_true rfl, Nat.le_of_ble_eq_true rfl⟩) (xPreS hG hP hD hp) rfl rfl hl.1 rfl (lv_room (Nat.le_of_ble_eq_true rfl)) dX5_lay_4 ⟨Nat.zero_le _, Nat.zero_le _⟩) hP hD hS hp (fun _ => rfl) (fun r_1 _ H locs hf hP hD hS => ?_)
  have hP : va_P D vwCl (wM k a mm nn we la si it be pa su wo le pp qq ro lo lp lq rp rq se no ne) H := hP
  have hD : va_D A (wM k a mm nn we la si it be pa su wo le pp qq ro lo lp lq rp rq se no ne) := hD
  refine lv_if_eq (tgt := 34) hx hb dX5_lay_7 (by decide) (fun c_2 => ?_) (fun c_2 => ?_)
  · have hf := hf.1 c_2
    refine lv_iconst (v := (-1)) hx hb dX5_lay_34 (by decide) ?_
    exact W.iret (v := (-1)) hx hb hr (fun t ht hW => ⟨⟨((-1) : Int32), (lp, lq, rp, rq), rfl, hf, xHp ht hP⟩, hS.F ht⟩) hS.2.2 dX5_lay_35 hlocks
  · have hf := hf.2 c_2
    refine lv_iload_n hx hb dX5_lay_10 rfl (lv_at hl 3 rfl) ?_
    refine lv_i2l (v := x3.toInt64) hx hb dX5_lay_11 rfl ?_
    refine lv_lconst (v := 1) hx hb dX5_lay_12 (by decide) ?_
    refine lv_ldc2 (v := 40) hx hb hown (hts _ mb_X5_lay_cl121) dX5_lay_13 ?_
    have hp : xPerm (wM k a mm nn we la si it be pa su wo le pp qq ro lo lp lq rp rq se no ne) (([]) ++ (wM k a mm nn we la si it be pa su wo le pp qq ro lo lp lq rp rq se no ne)) := (List.Perm.refl _)
    refine xCallI (w := []) (r := wM k a mm nn we la si it be pa su wo le pp qq ro lo lp lq rp rq se no ne) (va_runS (As := [.long (x3.toInt64), .long 1, .long 40]) (rest := []) ⟨hx, hb, hml, hown, hts⟩ (c_X5_in (x3.toInt64) 1 40 hf) (va_cwS 3 hts gX5_lay_X5_in rfl rfl rfl (by decide +kernel) ⟨Nat.le_of_ble_eq_true rfl, Nat.le_of_ble_eq_true rfl⟩) (xPreS hG hP hD hp) rfl rfl hl.1 rfl (lv_room (Nat.le_of_ble_eq_true rfl)) dX5_lay_16 ⟨Nat.zero_le _, Nat.zero_le _⟩) hP hD hS hp (fun _ => rfl) (fun r_3 _ H locs hf hP hD hS => ?_)
    have hP : va_P D vwCl (wM k a mm nn we la si it be pa su wo le pp qq ro lo lp lq rp rq se no ne) H := hP
    have hD : va_D A (wM k a mm nn we la si it be pa su wo le pp qq ro lo lp lq rp rq se no ne) := hD
    refine lv_if_eq (tgt := 34) hx hb dX5_lay_19 (by decide) (fun c_4 => ?_) (fun c_4 => ?_)
    · have hf := hf.1 c_4
      refine lv_iconst (v := (-1)) hx hb dX5_lay_34 (by decide) ?_
      exact W.iret (v := (-1)) hx hb hr (fun t ht hW => ⟨⟨((-1) : Int32), (lp, lq, rp, rq), rfl, hf, xHp ht hP⟩, hS.F ht⟩) hS.2.2 dX5_lay_35 hlocks
    · have hf := hf.2 c_4
      refine lv_iload_n hx hb dX5_lay_22 rfl (lv_at hl 2 rfl) ?_
      refine lv_i2l (v := x2.toInt64) hx hb dX5_lay_23 rfl ?_
      refine lv_lconst (v := 0) hx hb dX5_lay_24 (by decide) ?_
      refine lv_ldc2 (v := 8) hx hb hown (hts _ mb_X5_lay_cl116) dX5_lay_25 ?_
      have hp : xPerm (wM k a mm nn we la si it be pa su wo le pp qq ro lo lp lq rp rq se no ne) (([]) ++ (wM k a mm nn we la si it be pa su wo le pp qq ro lo lp lq rp rq se no ne)) := (List.Perm.refl _)
      refine xCallI (w := []) (r := wM k a mm nn we la si it be pa su wo le pp qq ro lo lp lq rp rq se no ne) (va_runS (As := [.long (x2.toInt64), .long 0, .long 8]) (rest := []) ⟨hx, hb, hml, hown, hts⟩ (c_X5_in (x2.toInt64) 0 8 hf) (va_cwS 3 hts gX5_lay_X5_in rfl rfl rfl (by decide +kernel) ⟨Nat.le_of_ble_eq_true rfl, Nat.le_of_ble_eq_true rfl⟩) (xPreS hG hP hD hp) rfl rfl hl.1 rfl (lv_room (Nat.le_of_ble_eq_true rfl)) dX5_lay_28 ⟨Nat.zero_le _, Nat.zero_le _⟩) hP hD hS hp (fun _ => rfl) (fun r_5 _ H locs hf hP hD hS => ?_)
      have hP : va_P D vwCl (wM k a mm nn we la si it be pa su wo le pp qq ro lo lp lq rp rq se no ne) H := hP
      have hD : va_D A (wM k a mm nn we la si it be pa su wo le pp qq ro lo lp lq rp rq se no ne) := hD
      refine lv_if_ne (tgt := 36) hx hb dX5_lay_31 (by decide) (fun c_6 => ?_) (fun c_6 => ?_)
      · have hf := hf.2 c_6
        refine lv_iload_n hx hb dX5_lay_36 rfl (lv_at hl 1 rfl) ?_
        refine lv_if_ne (tgt := 47) hx hb dX5_lay_37 (by decide) (fun c_7 => ?_) (fun c_7 => ?_)
        · have hf := hf.2 c_7
          refine lv_aload_n hx hb dX5_lay_47 rfl (lv_at hl 0 rfl) ?_
          refine va_get (D := D) (ci := 5) (C := RX5) (T := TX5) (N := 22) hx hb hts in_X5_lay_X5 hown hG.1 hP 0 rfl rfl 18 (by decide) (hts _ lk_X5_lay_63) (fun _ h9 => h9) rfl dX5_lay_48 ?_
          refine lv_astore (lv' := [(4, .ref (a 16)), (0, .ref (a 0)), (1, .int x1), (2, .int x2), (3, .int x3)]) hx hb dX5_lay_51 hl (by decide) rfl (fun ls hl => ?_)
          refine lv_iload_n hx hb dX5_lay_53 rfl (lv_at hl 2 rfl) ?_
          refine lv_if_ne (tgt := 64) hx hb dX5_lay_54 (by decide) (fun c_8 => ?_) (fun c_8 => ?_)
          · have hf := hf.2 c_8
            refine lv_aload_n hx hb dX5_lay_64 rfl (lv_at hl 1 rfl) ?_
            refine va_get (D := D) (ci := 5) (C := RX5) (T := TX5) (N := 22) hx hb hts in_X5_lay_X5 hown hG.1 hP 0 rfl rfl 16 (by decide) (hts _ lk_X5_lay_57) (fun _ h9 => h9) rfl dX5_lay_65 ?_
            refine lv_astore (lv' := [(5, .ref (a 14)), (4, .ref (a 16)), (0, .ref (a 0)), (1, .int x1), (2, .int x2), (3, .int x3)]) hx hb dX5_lay_68 hl (by decide) rfl (fun ls hl => ?_)
            refine lv_iload_n hx hb dX5_lay_70 rfl (lv_at hl 4 rfl) ?_
            refine lv_aload hx hb dX5_lay_71 (lv_at hl 1 rfl) ?_
            have hp : xPerm (wM k a mm nn we la si it be pa su wo le pp qq ro lo lp lq rp rq se no ne) (([((a 16, .inl (k 0, 9, .inl rq)) : Nat × va_E)]) ++ ((wM k a mm nn we la si it be pa su wo le pp qq ro lo lp lq rp rq se no ne).eraseIdx 16)) := (xCut1 (i := 16) (rfl : (wM k a mm nn we la si it be pa su wo le pp qq ro lo lp lq rp rq se no ne)[16]? = some ((a 16, .inl (k 0, 9, .inl rq)) : Nat × va_E)))
            refine xCallI (w := [((a 16, .inl (k 0, 9, .inl rq)) : Nat × va_E)]) (r := (wM k a mm nn we la si it be pa su wo le pp qq ro lo lp lq rp rq se no ne).eraseIdx 16) (va_runS (As := [.ref (a 16)]) (rest := [.int x2]) ⟨hx, hb, hml, hown, hts⟩ (c_X5_manyRows (a 16) rq hf) (va_cwS 1 hts gX5_lay_X5_manyRows rfl rfl rfl (by decide +kernel) ⟨Nat.le_of_ble_eq_true rfl, Nat.le_of_ble_eq_true rfl⟩) (xPreS hG hP hD hp) rfl rfl hl.1 rfl (lv_room (Nat.le_of_ble_eq_true rfl)) dX5_lay_73 ⟨Nat.zero_le _, Nat.zero_le _⟩) hP hD hS hp (fun _ => rfl) (fun r_9 _ H locs hf hP hD hS => ?_)
            have hP : va_P D vwCl (wM k a mm nn we la si it be pa su wo le pp qq ro lo lp lq rp rq se no ne) H := xP_perm (xCut1 (i := 16) (rfl : (wM k a mm nn we la si it be pa su wo le pp qq ro lo lp lq rp rq se no ne)[16]? = some ((a 16, .inl (k 0, 9, .inl rq)) : Nat × va_E))).symm hP
            have hD : va_D A (wM k a mm nn we la si it be pa su wo le pp qq ro lo lp lq rp rq se no ne) := xD_perm (xCut1 (i := 16) (rfl : (wM k a mm nn we la si it be pa su wo le pp qq ro lo lp lq rp rq se no ne)[16]? = some ((a 16, .inl (k 0, 9, .inl rq)) : Nat × va_E))).symm hD
            refine lv_icmp_le (tgt := 81) hx hb dX5_lay_76 (by decide) (fun c_10 => ?_) (fun c_10 => ?_)
            · have hf := hf.1 c_10
              refine lv_aload hx hb dX5_lay_81 (lv_at hl 1 rfl) ?_
              have hp : xPerm (wM k a mm nn we la si it be pa su wo le pp qq ro lo lp lq rp rq se no ne) (([((a 16, .inl (k 0, 9, .inl rq)) : Nat × va_E)]) ++ ((wM k a mm nn we la si it be pa su wo le pp qq ro lo lp lq rp rq se no ne).eraseIdx 16)) := (xCut1 (i := 16) (rfl : (wM k a mm nn we la si it be pa su wo le pp qq ro lo lp lq rp rq se no ne)[16]? = some ((a 16, .inl (k 0, 9, .inl rq)) : Nat × va_E)))
              refine xCallI (w := [((a 16, .inl (k 0, 9, .inl rq)) : Nat × va_E)]) (r := (wM k a mm nn we la si it be pa su wo le pp qq ro lo lp lq rp rq se no ne).eraseIdx 16) (va_runS (As := [.ref (a 16)]) (rest := []) ⟨hx, hb, hml, hown, hts⟩ (c_X5_total (a 16) rq hf) (va_cwS 1 hts gX5_lay_X5_total rfl rfl rfl (by decide +kernel) ⟨Nat.le_of_ble_eq_true rfl, Nat.le_of_ble_eq_true rfl⟩) (xPreS hG hP hD hp) rfl rfl hl.1 rfl (lv_room (Nat.le_of_ble_eq_true rfl)) dX5_lay_83 ⟨Nat.zero_le _, Nat.zero_le _⟩) hP hD hS hp (fun _ => rfl) (fun r_11 _ H locs hf hP hD hS => ?_)
              have hP : va_P D vwCl (wM k a mm nn we la si it be pa su wo le pp qq ro lo lp lq rp rq se no ne) H := xP_perm (xCut1 (i := 16) (rfl : (wM k a mm nn we la si it be pa su wo le pp qq ro lo lp lq rp rq se no ne)[16]? = some ((a 16, .inl (k 0, 9, .inl rq)) : Nat × va_E))).symm hP
              have hD : va_D A (wM k a mm nn we la si it be pa su wo le pp qq ro lo lp lq rp rq se no ne) := xD_perm (xCut1 (i := 16) (rfl : (wM k a mm nn we la si it be pa su wo le pp qq ro lo lp lq rp rq se no ne)[16]? = some ((a 16, .inl (k 0, 9, .inl rq)) : Nat × va_E))).symm hD
              refine lv_bipush (v := 40) hx hb dX5_lay_86 (by decide) ?_
              refine lv_icmp_ne (tgt := 94) hx hb dX5_lay_88 (by decide) (fun c_12 => ?_) (fun c_12 => ?_)
              · have hf := hf.2 c_12
                refine lv_aload hx hb dX5_lay_94 (lv_at hl 0 rfl) ?_
                refine lv_bipush (v := 40) hx hb dX5_lay_96 (by decide) ?_
                refine lv_iload_n hx hb dX5_lay_98 rfl (lv_at hl 4 rfl) ?_
                refine lv_imul hx hb dX5_lay_99 ?_
                refine lv_aload hx hb dX5_lay_100 (lv_at hl 1 rfl) ?_
                refine lv_iload_n hx hb dX5_lay_102 rfl (lv_at hl 4 rfl) ?_
                obtain ⟨h_13, hf⟩ := hf
                refine va_iald hx hb hG.1 hP 16 0 rfl rfl h_13 dX5_lay_103 ?_
                refine lv_iadd hx hb dX5_lay_104 ?_
                refine lv_iload_n hx hb dX5_lay_105 rfl (lv_at hl 5 rfl) ?_
                obtain ⟨h_14, hf⟩ := hf
                refine va_iast hx hb hG.1 hP hD hS 14 0 rfl rfl h_14 dX5_lay_106 (fun H locs hP hD hS => ?_)
                have hP : va_P D vwCl (wM k a mm nn we la si it be pa su wo le pp qq ro lo lp (upd lq (((40 * x2) + (rq x2.toNatClampNeg)).toNatClampNeg) x3) rp rq se no ne) H := hP
                have hD : va_D A (wM k a mm nn we la si it be pa su wo le pp qq ro lo lp (upd lq (((40 * x2) + (rq x2.toNatClampNeg)).toNatClampNeg) x3) rp rq se no ne) := hD
                refine lv_aload hx hb dX5_lay_107 (lv_at hl 1 rfl) ?_
                refine lv_iload_n hx hb dX5_lay_109 rfl (lv_at hl 4 rfl) ?_
                refine lv_dup2_11 hx hb dX5_lay_110 rfl rfl ?_
                obtain ⟨h_15, hf⟩ := hf
                refine va_iald hx hb hG.1 hP 16 0 rfl rfl h_15 dX5_lay_111 ?_
                refine lv_iconst (v := 1) hx hb dX5_lay_112 (by decide) ?_
                refine lv_iadd hx hb dX5_lay_113 ?_
                obtain ⟨h_16, hf⟩ := hf
                refine va_iast hx hb hG.1 hP hD hS 16 0 rfl rfl h_16 dX5_lay_114 (fun H locs hP hD hS => ?_)
                have hP : va_P D vwCl (wM k a mm nn we la si it be pa su wo le pp qq ro lo lp (upd lq (((40 * x2) + (rq x2.toNatClampNeg)).toNatClampNeg) x3) rp (upd rq (x2.toNatClampNeg) ((rq x2.toNatClampNeg) + 1)) se no ne) H := hP
                have hD : va_D A (wM k a mm nn we la si it be pa su wo le pp qq ro lo lp (upd lq (((40 * x2) + (rq x2.toNatClampNeg)).toNatClampNeg) x3) rp (upd rq (x2.toNatClampNeg) ((rq x2.toNatClampNeg) + 1)) se no ne) := hD
                refine lv_aload hx hb dX5_lay_115 (lv_at hl 1 rfl) ?_
                refine lv_iload_n hx hb dX5_lay_117 rfl (lv_at hl 4 rfl) ?_
                obtain ⟨h_17, hf⟩ := hf
                refine va_iald hx hb hG.1 hP 16 0 rfl rfl h_17 dX5_lay_118 ?_
                exact W.iret (v := ((upd rq (x2.toNatClampNeg) ((rq x2.toNatClampNeg) + 1)) x2.toNatClampNeg)) hx hb hr (fun t ht hW => ⟨⟨((upd rq (x2.toNatClampNeg) ((rq x2.toNatClampNeg) + 1)) x2.toNatClampNeg), (lp, (upd lq (((40 * x2) + (rq x2.toNatClampNeg)).toNatClampNeg) x3), rp, (upd rq (x2.toNatClampNeg) ((rq x2.toNatClampNeg) + 1))), rfl, hf, xHp ht hP⟩, hS.F ht⟩) hS.2.2 dX5_lay_119 hlocks
              · have hf := hf.1 c_12
                refine lv_bipush (v := (-3)) hx hb dX5_lay_91 (by decide) ?_
                exact W.iret (v := (-3)) hx hb hr (fun t ht hW => ⟨⟨((-3) : Int32), (lp, lq, rp, rq), rfl, hf, xHp ht hP⟩, hS.F ht⟩) hS.2.2 dX5_lay_93 hlocks
            · have hf := hf.2 c_10
              refine lv_iconst (v := (-1)) hx hb dX5_lay_79 (by decide) ?_
              exact W.iret (v := (-1)) hx hb hr (fun t ht hW => ⟨⟨((-1) : Int32), (lp, lq, rp, rq), rfl, hf, xHp ht hP⟩, hS.F ht⟩) hS.2.2 dX5_lay_80 hlocks
          · have hf := hf.1 c_8
            refine lv_aload_n hx hb dX5_lay_57 rfl (lv_at hl 1 rfl) ?_
            refine va_get (D := D) (ci := 5) (C := RX5) (T := TX5) (N := 22) hx hb hts in_X5_lay_X5 hown hG.1 hP 0 rfl rfl 15 (by decide) (hts _ lk_X5_lay_54) (fun _ h9 => h9) rfl dX5_lay_58 ?_
            refine lv_goto (tgt := 68) hx hb dX5_lay_61 (by decide) ?_
            refine lv_astore (lv' := [(5, .ref (a 13)), (4, .ref (a 16)), (0, .ref (a 0)), (1, .int x1), (2, .int x2), (3, .int x3)]) hx hb dX5_lay_68 hl (by decide) rfl (fun ls hl => ?_)
            refine lv_iload_n hx hb dX5_lay_70 rfl (lv_at hl 4 rfl) ?_
            refine lv_aload hx hb dX5_lay_71 (lv_at hl 1 rfl) ?_
            have hp : xPerm (wM k a mm nn we la si it be pa su wo le pp qq ro lo lp lq rp rq se no ne) (([((a 16, .inl (k 0, 9, .inl rq)) : Nat × va_E)]) ++ ((wM k a mm nn we la si it be pa su wo le pp qq ro lo lp lq rp rq se no ne).eraseIdx 16)) := (xCut1 (i := 16) (rfl : (wM k a mm nn we la si it be pa su wo le pp qq ro lo lp lq rp rq se no ne)[16]? = some ((a 16, .inl (k 0, 9, .inl rq)) : Nat × va_E)))
            refine xCallI (w := [((a 16, .inl (k 0, 9, .inl rq)) : Nat × va_E)]) (r := (wM k a mm nn we la si it be pa su wo le pp qq ro lo lp lq rp rq se no ne).eraseIdx 16) (va_runS (As := [.ref (a 16)]) (rest := [.int x2]) ⟨hx, hb, hml, hown, hts⟩ (c_X5_manyRows (a 16) rq hf) (va_cwS 1 hts gX5_lay_X5_manyRows rfl rfl rfl (by decide +kernel) ⟨Nat.le_of_ble_eq_true rfl, Nat.le_of_ble_eq_true rfl⟩) (xPreS hG hP hD hp) rfl rfl hl.1 rfl (lv_room (Nat.le_of_ble_eq_true rfl)) dX5_lay_73 ⟨Nat.zero_le _, Nat.zero_le _⟩) hP hD hS hp (fun _ => rfl) (fun r_18 _ H locs hf hP hD hS => ?_)
            have hP : va_P D vwCl (wM k a mm nn we la si it be pa su wo le pp qq ro lo lp lq rp rq se no ne) H := xP_perm (xCut1 (i := 16) (rfl : (wM k a mm nn we la si it be pa su wo le pp qq ro lo lp lq rp rq se no ne)[16]? = some ((a 16, .inl (k 0, 9, .inl rq)) : Nat × va_E))).symm hP
            have hD : va_D A (wM k a mm nn we la si it be pa su wo le pp qq ro lo lp lq rp rq se no ne) := xD_perm (xCut1 (i := 16) (rfl : (wM k a mm nn we la si it be pa su wo le pp qq ro lo lp lq rp rq se no ne)[16]? = some ((a 16, .inl (k 0, 9, .inl rq)) : Nat × va_E))).symm hD
            refine lv_icmp_le (tgt := 81) hx hb dX5_lay_76 (by decide) (fun c_19 => ?_) (fun c_19 => ?_)
            · have hf := hf.1 c_19
              refine lv_aload hx hb dX5_lay_81 (lv_at hl 1 rfl) ?_
              have hp : xPerm (wM k a mm nn we la si it be pa su wo le pp qq ro lo lp lq rp rq se no ne) (([((a 16, .inl (k 0, 9, .inl rq)) : Nat × va_E)]) ++ ((wM k a mm nn we la si it be pa su wo le pp qq ro lo lp lq rp rq se no ne).eraseIdx 16)) := (xCut1 (i := 16) (rfl : (wM k a mm nn we la si it be pa su wo le pp qq ro lo lp lq rp rq se no ne)[16]? = some ((a 16, .inl (k 0, 9, .inl rq)) : Nat × va_E)))
              refine xCallI (w := [((a 16, .inl (k 0, 9, .inl rq)) : Nat × va_E)]) (r := (wM k a mm nn we la si it be pa su wo le pp qq ro lo lp lq rp rq se no ne).eraseIdx 16) (va_runS (As := [.ref (a 16)]) (rest := []) ⟨hx, hb, hml, hown, hts⟩ (c_X5_total (a 16) rq hf) (va_cwS 1 hts gX5_lay_X5_total rfl rfl rfl (by decide +kernel) ⟨Nat.le_of_ble_eq_true rfl, Nat.le_of_ble_eq_true rfl⟩) (xPreS hG hP hD hp) rfl rfl hl.1 rfl (lv_room (Nat.le_of_ble_eq_true rfl)) dX5_lay_83 ⟨Nat.zero_le _, Nat.zero_le _⟩) hP hD hS hp (fun _ => rfl) (fun r_20 _ H locs hf hP hD hS => ?_)
              have hP : va_P D vwCl (wM k a mm nn we la si it be pa su wo le pp qq ro lo lp lq rp rq se no ne) H := xP_perm (xCut1 (i := 16) (rfl : (wM k a mm nn we la si it be pa su wo le pp qq ro lo lp lq rp rq se no ne)[16]? = some ((a 16, .inl (k 0, 9, .inl rq)) : Nat × va_E))).symm hP
              have hD : va_D A (wM k a mm nn we la si it be pa su wo le pp qq ro lo lp lq rp rq se no ne) := xD_perm (xCut1 (i := 16) (rfl : (wM k a mm nn we la si it be pa su wo le pp qq ro lo lp lq rp rq se no ne)[16]? = some ((a 16, .inl (k 0, 9, .inl rq)) : Nat × va_E))).symm hD
              refine lv_bipush (v := 40) hx hb dX5_lay_86 (by decide) ?_
              refine lv_icmp_ne (tgt := 94) hx hb dX5_lay_88 (by decide) (fun c_21 => ?_) (fun c_21 => ?_)
              · have hf := hf.2 c_21
                refine lv_aload hx hb dX5_lay_94 (lv_at hl 0 rfl) ?_
                refine lv_bipush (v := 40) hx hb dX5_lay_96 (by decide) ?_
                refine lv_iload_n hx hb dX5_lay_98 rfl (lv_at hl 4 rfl) ?_
                refine lv_imul hx hb dX5_lay_99 ?_
                refine lv_aload hx hb dX5_lay_100 (lv_at hl 1 rfl) ?_
                refine lv_iload_n hx hb dX5_lay_102 rfl (lv_at hl 4 rfl) ?_
                obtain ⟨h_22, hf⟩ := hf
                refine va_iald hx hb hG.1 hP 16 0 rfl rfl h_22 dX5_lay_103 ?_
                refine lv_iadd hx hb dX5_lay_104 ?_
                refine lv_iload_n hx hb dX5_lay_105 rfl (lv_at hl 5 rfl) ?_
                obtain ⟨h_23, hf⟩ := hf
                refine va_iast hx hb hG.1 hP hD hS 13 0 rfl rfl h_23 dX5_lay_106 (fun H locs hP hD hS => ?_)
                have hP : va_P D vwCl (wM k a mm nn we la si it be pa su wo le pp qq ro lo (upd lp (((40 * x2) + (rq x2.toNatClampNeg)).toNatClampNeg) x3) lq rp rq se no ne) H := hP
                have hD : va_D A (wM k a mm nn we la si it be pa su wo le pp qq ro lo (upd lp (((40 * x2) + (rq x2.toNatClampNeg)).toNatClampNeg) x3) lq rp rq se no ne) := hD
                refine lv_aload hx hb dX5_lay_107 (lv_at hl 1 rfl) ?_
                refine lv_iload_n hx hb dX5_lay_109 rfl (lv_at hl 4 rfl) ?_
                refine lv_dup2_11 hx hb dX5_lay_110 rfl rfl ?_
                obtain ⟨h_24, hf⟩ := hf
                refine va_iald hx hb hG.1 hP 16 0 rfl rfl h_24 dX5_lay_111 ?_
                refine lv_iconst (v := 1) hx hb dX5_lay_112 (by decide) ?_
                refine lv_iadd hx hb dX5_lay_113 ?_
                obtain ⟨h_25, hf⟩ := hf
                refine va_iast hx hb hG.1 hP hD hS 16 0 rfl rfl h_25 dX5_lay_114 (fun H locs hP hD hS => ?_)
                have hP : va_P D vwCl (wM k a mm nn we la si it be pa su wo le pp qq ro lo (upd lp (((40 * x2) + (rq x2.toNatClampNeg)).toNatClampNeg) x3) lq rp (upd rq (x2.toNatClampNeg) ((rq x2.toNatClampNeg) + 1)) se no ne) H := hP
                have hD : va_D A (wM k a mm nn we la si it be pa su wo le pp qq ro lo (upd lp (((40 * x2) + (rq x2.toNatClampNeg)).toNatClampNeg) x3) lq rp (upd rq (x2.toNatClampNeg) ((rq x2.toNatClampNeg) + 1)) se no ne) := hD
                refine lv_aload hx hb dX5_lay_115 (lv_at hl 1 rfl) ?_
                refine lv_iload_n hx hb dX5_lay_117 rfl (lv_at hl 4 rfl) ?_
                obtain ⟨h_26, hf⟩ := hf
                refine va_iald hx hb hG.1 hP 16 0 rfl rfl h_26 dX5_lay_118 ?_
                exact W.iret (v := ((upd rq (x2.toNatClampNeg) ((rq x2.toNatClampNeg) + 1)) x2.toNatClampNeg)) hx hb hr (fun t ht hW => ⟨⟨((upd rq (x2.toNatClampNeg) ((rq x2.toNatClampNeg) + 1)) x2.toNatClampNeg), ((upd lp (((40 * x2) + (rq x2.toNatClampNeg)).toNatClampNeg) x3), lq, rp, (upd rq (x2.toNatClampNeg) ((rq x2.toNatClampNeg) + 1))), rfl, hf, xHp ht hP⟩, hS.F ht⟩) hS.2.2 dX5_lay_119 hlocks
              · have hf := hf.1 c_21
                refine lv_bipush (v := (-3)) hx hb dX5_lay_91 (by decide) ?_
                exact W.iret (v := (-3)) hx hb hr (fun t ht hW => ⟨⟨((-3) : Int32), (lp, lq, rp, rq), rfl, hf, xHp ht hP⟩, hS.F ht⟩) hS.2.2 dX5_lay_93 hlocks
            · have hf := hf.2 c_19
              refine lv_iconst (v := (-1)) hx hb dX5_lay_79 (by decide) ?_
              exact W.iret (v := (-1)) hx hb hr (fun t ht hW => ⟨⟨((-1) : Int32), (lp, lq, rp, rq), rfl, hf, xHp ht hP⟩, hS.F ht⟩) hS.2.2 dX5_lay_80 hlocks
        · have hf := hf.1 c_7
          refine lv_aload_n hx hb dX5_lay_40 rfl (lv_at hl 0 rfl) ?_
          refine va_get (D := D) (ci := 5) (C := RX5) (T := TX5) (N := 22) hx hb hts in_X5_lay_X5 hown hG.1 hP 0 rfl rfl 17 (by decide) (hts _ lk_X5_lay_60) (fun _ h9 => h9) rfl dX5_lay_41 ?_
          refine lv_goto (tgt := 51) hx hb dX5_lay_44 (by decide) ?_
          refine lv_astore (lv' := [(4, .ref (a 15)), (0, .ref (a 0)), (1, .int x1), (2, .int x2), (3, .int x3)]) hx hb dX5_lay_51 hl (by decide) rfl (fun ls hl => ?_)
          refine lv_iload_n hx hb dX5_lay_53 rfl (lv_at hl 2 rfl) ?_
          refine lv_if_ne (tgt := 64) hx hb dX5_lay_54 (by decide) (fun c_27 => ?_) (fun c_27 => ?_)
          · have hf := hf.2 c_27
            refine lv_aload_n hx hb dX5_lay_64 rfl (lv_at hl 1 rfl) ?_
            refine va_get (D := D) (ci := 5) (C := RX5) (T := TX5) (N := 22) hx hb hts in_X5_lay_X5 hown hG.1 hP 0 rfl rfl 16 (by decide) (hts _ lk_X5_lay_57) (fun _ h9 => h9) rfl dX5_lay_65 ?_
            refine lv_astore (lv' := [(5, .ref (a 14)), (4, .ref (a 15)), (0, .ref (a 0)), (1, .int x1), (2, .int x2), (3, .int x3)]) hx hb dX5_lay_68 hl (by decide) rfl (fun ls hl => ?_)
            refine lv_iload_n hx hb dX5_lay_70 rfl (lv_at hl 4 rfl) ?_
            refine lv_aload hx hb dX5_lay_71 (lv_at hl 1 rfl) ?_
            have hp : xPerm (wM k a mm nn we la si it be pa su wo le pp qq ro lo lp lq rp rq se no ne) (([((a 15, .inl (k 0, 9, .inl rp)) : Nat × va_E)]) ++ ((wM k a mm nn we la si it be pa su wo le pp qq ro lo lp lq rp rq se no ne).eraseIdx 15)) := (xCut1 (i := 15) (rfl : (wM k a mm nn we la si it be pa su wo le pp qq ro lo lp lq rp rq se no ne)[15]? = some ((a 15, .inl (k 0, 9, .inl rp)) : Nat × va_E)))
            refine xCallI (w := [((a 15, .inl (k 0, 9, .inl rp)) : Nat × va_E)]) (r := (wM k a mm nn we la si it be pa su wo le pp qq ro lo lp lq rp rq se no ne).eraseIdx 15) (va_runS (As := [.ref (a 15)]) (rest := [.int x2]) ⟨hx, hb, hml, hown, hts⟩ (c_X5_manyRows (a 15) rp hf) (va_cwS 1 hts gX5_lay_X5_manyRows rfl rfl rfl (by decide +kernel) ⟨Nat.le_of_ble_eq_true rfl, Nat.le_of_ble_eq_true rfl⟩) (xPreS hG hP hD hp) rfl rfl hl.1 rfl (lv_room (Nat.le_of_ble_eq_true rfl)) dX5_lay_73 ⟨Nat.zero_le _, Nat.zero_le _⟩) hP hD hS hp (fun _ => rfl) (fun r_28 _ H locs hf hP hD hS => ?_)
            have hP : va_P D vwCl (wM k a mm nn we la si it be pa su wo le pp qq ro lo lp lq rp rq se no ne) H := xP_perm (xCut1 (i := 15) (rfl : (wM k a mm nn we la si it be pa su wo le pp qq ro lo lp lq rp rq se no ne)[15]? = some ((a 15, .inl (k 0, 9, .inl rp)) : Nat × va_E))).symm hP
            have hD : va_D A (wM k a mm nn we la si it be pa su wo le pp qq ro lo lp lq rp rq se no ne) := xD_perm (xCut1 (i := 15) (rfl : (wM k a mm nn we la si it be pa su wo le pp qq ro lo lp lq rp rq se no ne)[15]? = some ((a 15, .inl (k 0, 9, .inl rp)) : Nat × va_E))).symm hD
            refine lv_icmp_le (tgt := 81) hx hb dX5_lay_76 (by decide) (fun c_29 => ?_) (fun c_29 => ?_)
            · have hf := hf.1 c_29
              refine lv_aload hx hb dX5_lay_81 (lv_at hl 1 rfl) ?_
              have hp : xPerm (wM k a mm nn we la si it be pa su wo le pp qq ro lo lp lq rp rq se no ne) (([((a 15, .inl (k 0, 9, .inl rp)) : Nat × va_E)]) ++ ((wM k a mm nn we la si it be pa su wo le pp qq ro lo lp lq rp rq se no ne).eraseIdx 15)) := (xCut1 (i := 15) (rfl : (wM k a mm nn we la si it be pa su wo le pp qq ro lo lp lq rp rq se no ne)[15]? = some ((a 15, .inl (k 0, 9, .inl rp)) : Nat × va_E)))
              refine xCallI (w := [((a 15, .inl (k 0, 9, .inl rp)) : Nat × va_E)]) (r := (wM k a mm nn we la si it be pa su wo le pp qq ro lo lp lq rp rq se no ne).eraseIdx 15) (va_runS (As := [.ref (a 15)]) (rest := []) ⟨hx, hb, hml, hown, hts⟩ (c_X5_total (a 15) rp hf) (va_cwS 1 hts gX5_lay_X5_total rfl rfl rfl (by decide +kernel) ⟨Nat.le_of_ble_eq_true rfl, Nat.le_of_ble_eq_true rfl⟩) (xPreS hG hP hD hp) rfl rfl hl.1 rfl (lv_room (Nat.le_of_ble_eq_true rfl)) dX5_lay_83 ⟨Nat.zero_le _, Nat.zero_le _⟩) hP hD hS hp (fun _ => rfl) (fun r_30 _ H locs hf hP hD hS => ?_)
              have hP : va_P D vwCl (wM k a mm nn we la si it be pa su wo le pp qq ro lo lp lq rp rq se no ne) H := xP_perm (xCut1 (i := 15) (rfl : (wM k a mm nn we la si it be pa su wo le pp qq ro lo lp lq rp rq se no ne)[15]? = some ((a 15, .inl (k 0, 9, .inl rp)) : Nat × va_E))).symm hP
              have hD : va_D A (wM k a mm nn we la si it be pa su wo le pp qq ro lo lp lq rp rq se no ne) := xD_perm (xCut1 (i := 15) (rfl : (wM k a mm nn we la si it be pa su wo le pp qq ro lo lp lq rp rq se no ne)[15]? = some ((a 15, .inl (k 0, 9, .inl rp)) : Nat × va_E))).symm hD
              refine lv_bipush (v := 40) hx hb dX5_lay_86 (by decide) ?_
              refine lv_icmp_ne (tgt := 94) hx hb dX5_lay_88 (by decide) (fun c_31 => ?_) (fun c_31 => ?_)
              · have hf := hf.2 c_31
                refine lv_aload hx hb dX5_lay_94 (lv_at hl 0 rfl) ?_
                refine lv_bipush (v := 40) hx hb dX5_lay_96 (by decide) ?_
                refine lv_iload_n hx hb dX5_lay_98 rfl (lv_at hl 4 rfl) ?_
                refine lv_imul hx hb dX5_lay_99 ?_
                refine lv_aload hx hb dX5_lay_100 (lv_at hl 1 rfl) ?_
                refine lv_iload_n hx hb dX5_lay_102 rfl (lv_at hl 4 rfl) ?_
                obtain ⟨h_32, hf⟩ := hf
                refine va_iald hx hb hG.1 hP 15 0 rfl rfl h_32 dX5_lay_103 ?_
                refine lv_iadd hx hb dX5_lay_104 ?_
                refine lv_iload_n hx hb dX5_lay_105 rfl (lv_at hl 5 rfl) ?_
                obtain ⟨h_33, hf⟩ := hf
                refine va_iast hx hb hG.1 hP hD hS 14 0 rfl rfl h_33 dX5_lay_106 (fun H locs hP hD hS => ?_)
                have hP : va_P D vwCl (wM k a mm nn we la si it be pa su wo le pp qq ro lo lp (upd lq (((40 * x2) + (rp x2.toNatClampNeg)).toNatClampNeg) x3) rp rq se no ne) H := hP
                have hD : va_D A (wM k a mm nn we la si it be pa su wo le pp qq ro lo lp (upd lq (((40 * x2) + (rp x2.toNatClampNeg)).toNatClampNeg) x3) rp rq se no ne) := hD
                refine lv_aload hx hb dX5_lay_107 (lv_at hl 1 rfl) ?_
                refine lv_iload_n hx hb dX5_lay_109 rfl (lv_at hl 4 rfl) ?_
                refine lv_dup2_11 hx hb dX5_lay_110 rfl rfl ?_
                obtain ⟨h_34, hf⟩ := hf
                refine va_iald hx hb hG.1 hP 15 0 rfl rfl h_34 dX5_lay_111 ?_
                refine lv_iconst (v := 1) hx hb dX5_lay_112 (by decide) ?_
                refine lv_iadd hx hb dX5_lay_113 ?_
                obtain ⟨h_35, hf⟩ := hf
                refine va_iast hx hb hG.1 hP hD hS 15 0 rfl rfl h_35 dX5_lay_114 (fun H locs hP hD hS => ?_)
                have hP : va_P D vwCl (wM k a mm nn we la si it be pa su wo le pp qq ro lo lp (upd lq (((40 * x2) + (rp x2.toNatClampNeg)).toNatClampNeg) x3) (upd rp (x2.toNatClampNeg) ((rp x2.toNatClampNeg) + 1)) rq se no ne) H := hP
                have hD : va_D A (wM k a mm nn we la si it be pa su wo le pp qq ro lo lp (upd lq (((40 * x2) + (rp x2.toNatClampNeg)).toNatClampNeg) x3) (upd rp (x2.toNatClampNeg) ((rp x2.toNatClampNeg) + 1)) rq se no ne) := hD
                refine lv_aload hx hb dX5_lay_115 (lv_at hl 1 rfl) ?_
                refine lv_iload_n hx hb dX5_lay_117 rfl (lv_at hl 4 rfl) ?_
                obtain ⟨h_36, hf⟩ := hf
                refine va_iald hx hb hG.1 hP 15 0 rfl rfl h_36 dX5_lay_118 ?_
                exact W.iret (v := ((upd rp (x2.toNatClampNeg) ((rp x2.toNatClampNeg) + 1)) x2.toNatClampNeg)) hx hb hr (fun t ht hW => ⟨⟨((upd rp (x2.toNatClampNeg) ((rp x2.toNatClampNeg) + 1)) x2.toNatClampNeg), (lp, (upd lq (((40 * x2) + (rp x2.toNatClampNeg)).toNatClampNeg) x3), (upd rp (x2.toNatClampNeg) ((rp x2.toNatClampNeg) + 1)), rq), rfl, hf, xHp ht hP⟩, hS.F ht⟩) hS.2.2 dX5_lay_119 hlocks
              · have hf := hf.1 c_31
                refine lv_bipush (v := (-3)) hx hb dX5_lay_91 (by decide) ?_
                exact W.iret (v := (-3)) hx hb hr (fun t ht hW => ⟨⟨((-3) : Int32), (lp, lq, rp, rq), rfl, hf, xHp ht hP⟩, hS.F ht⟩) hS.2.2 dX5_lay_93 hlocks
            · have hf := hf.2 c_29
              refine lv_iconst (v := (-1)) hx hb dX5_lay_79 (by decide) ?_
              exact W.iret (v := (-1)) hx hb hr (fun t ht hW => ⟨⟨((-1) : Int32), (lp, lq, rp, rq), rfl, hf, xHp ht hP⟩, hS.F ht⟩) hS.2.2 dX5_lay_80 hlocks
          · have hf := hf.1 c_27
            refine lv_aload_n hx hb dX5_lay_57 rfl (lv_at hl 1 rfl) ?_
            refine va_get (D := D) (ci := 5) (C := RX5) (T := TX5) (N := 22) hx hb hts in_X5_lay_X5 hown hG.1 hP 0 rfl rfl 15 (by decide) (hts _ lk_X5_lay_54) (fun _ h9 => h9) rfl dX5_lay_58 ?_
            refine lv_goto (tgt := 68) hx hb dX5_lay_61 (by decide) ?_
            refine lv_astore (lv' := [(5, .ref (a 13)), (4, .ref (a 15)), (0, .ref (a 0)), (1, .int x1), (2, .int x2), (3, .int x3)]) hx hb dX5_lay_68 hl (by decide) rfl (fun ls hl => ?_)
            refine lv_iload_n hx hb dX5_lay_70 rfl (lv_at hl 4 rfl) ?_
            refine lv_aload hx hb dX5_lay_71 (lv_at hl 1 rfl) ?_
            have hp : xPerm (wM k a mm nn we la si it be pa su wo le pp qq ro lo lp lq rp rq se no ne) (([((a 15, .inl (k 0, 9, .inl rp)) : Nat × va_E)]) ++ ((wM k a mm nn we la si it be pa su wo le pp qq ro lo lp lq rp rq se no ne).eraseIdx 15)) := (xCut1 (i := 15) (rfl : (wM k a mm nn we la si it be pa su wo le pp qq ro lo lp lq rp rq se no ne)[15]? = some ((a 15, .inl (k 0, 9, .inl rp)) : Nat × va_E)))
            refine xCallI (w := [((a 15, .inl (k 0, 9, .inl rp)) : Nat × va_E)]) (r := (wM k a mm nn we la si it be pa su wo le pp qq ro lo lp lq rp rq se no ne).eraseIdx 15) (va_runS (As := [.ref (a 15)]) (rest := [.int x2]) ⟨hx, hb, hml, hown, hts⟩ (c_X5_manyRows (a 15) rp hf) (va_cwS 1 hts gX5_lay_X5_manyRows rfl rfl rfl (by decide +kernel) ⟨Nat.le_of_ble_eq_true rfl, Nat.le_of_ble_eq_true rfl⟩) (xPreS hG hP hD hp) rfl rfl hl.1 rfl (lv_room (Nat.le_of_ble_eq_true rfl)) dX5_lay_73 ⟨Nat.zero_le _, Nat.zero_le _⟩) hP hD hS hp (fun _ => rfl) (fun r_37 _ H locs hf hP hD hS => ?_)
            have hP : va_P D vwCl (wM k a mm nn we la si it be pa su wo le pp qq ro lo lp lq rp rq se no ne) H := xP_perm (xCut1 (i := 15) (rfl : (wM k a mm nn we la si it be pa su wo le pp qq ro lo lp lq rp rq se no ne)[15]? = some ((a 15, .inl (k 0, 9, .inl rp)) : Nat × va_E))).symm hP
            have hD : va_D A (wM k a mm nn we la si it be pa su wo le pp qq ro lo lp lq rp rq se no ne) := xD_perm (xCut1 (i := 15) (rfl : (wM k a mm nn we la si it be pa su wo le pp qq ro lo lp lq rp rq se no ne)[15]? = some ((a 15, .inl (k 0, 9, .inl rp)) : Nat × va_E))).symm hD
            refine lv_icmp_le (tgt := 81) hx hb dX5_lay_76 (by decide) (fun c_38 => ?_) (fun c_38 => ?_)
            · have hf := hf.1 c_38
              refine lv_aload hx hb dX5_lay_81 (lv_at hl 1 rfl) ?_
              have hp : xPerm (wM k a mm nn we la si it be pa su wo le pp qq ro lo lp lq rp rq se no ne) (([((a 15, .inl (k 0, 9, .inl rp)) : Nat × va_E)]) ++ ((wM k a mm nn we la si it be pa su wo le pp qq ro lo lp lq rp rq se no ne).eraseIdx 15)) := (xCut1 (i := 15) (rfl : (wM k a mm nn we la si it be pa su wo le pp qq ro lo lp lq rp rq se no ne)[15]? = some ((a 15, .inl (k 0, 9, .inl rp)) : Nat × va_E)))
              refine xCallI (w := [((a 15, .inl (k 0, 9, .inl rp)) : Nat × va_E)]) (r := (wM k a mm nn we la si it be pa su wo le pp qq ro lo lp lq rp rq se no ne).eraseIdx 15) (va_runS (As := [.ref (a 15)]) (rest := []) ⟨hx, hb, hml, hown, hts⟩ (c_X5_total (a 15) rp hf) (va_cwS 1 hts gX5_lay_X5_total rfl rfl rfl (by decide +kernel) ⟨Nat.le_of_ble_eq_true rfl, Nat.le_of_ble_eq_true rfl⟩) (xPreS hG hP hD hp) rfl rfl hl.1 rfl (lv_room (Nat.le_of_ble_eq_true rfl)) dX5_lay_83 ⟨Nat.zero_le _, Nat.zero_le _⟩) hP hD hS hp (fun _ => rfl) (fun r_39 _ H locs hf hP hD hS => ?_)
              have hP : va_P D vwCl (wM k a mm nn we la si it be pa su wo le pp qq ro lo lp lq rp rq se no ne) H := xP_perm (xCut1 (i := 15) (rfl : (wM k a mm nn we la si it be pa su wo le pp qq ro lo lp lq rp rq se no ne)[15]? = some ((a 15, .inl (k 0, 9, .inl rp)) : Nat × va_E))).symm hP
              have hD : va_D A (wM k a mm nn we la si it be pa su wo le pp qq ro lo lp lq rp rq se no ne) := xD_perm (xCut1 (i := 15) (rfl : (wM k a mm nn we la si it be pa su wo le pp qq ro lo lp lq rp rq se no ne)[15]? = some ((a 15, .inl (k 0, 9, .inl rp)) : Nat × va_E))).symm hD
              refine lv_bipush (v := 40) hx hb dX5_lay_86 (by decide) ?_
              refine lv_icmp_ne (tgt := 94) hx hb dX5_lay_88 (by decide) (fun c_40 => ?_) (fun c_40 => ?_)
              · have hf := hf.2 c_40
                refine lv_aload hx hb dX5_lay_94 (lv_at hl 0 rfl) ?_
                refine lv_bipush (v := 40) hx hb dX5_lay_96 (by decide) ?_
                refine lv_iload_n hx hb dX5_lay_98 rfl (lv_at hl 4 rfl) ?_
                refine lv_imul hx hb dX5_lay_99 ?_
                refine lv_aload hx hb dX5_lay_100 (lv_at hl 1 rfl) ?_
                refine lv_iload_n hx hb dX5_lay_102 rfl (lv_at hl 4 rfl) ?_
                obtain ⟨h_41, hf⟩ := hf
                refine va_iald hx hb hG.1 hP 15 0 rfl rfl h_41 dX5_lay_103 ?_
                refine lv_iadd hx hb dX5_lay_104 ?_
                refine lv_iload_n hx hb dX5_lay_105 rfl (lv_at hl 5 rfl) ?_
                obtain ⟨h_42, hf⟩ := hf
                refine va_iast hx hb hG.1 hP hD hS 13 0 rfl rfl h_42 dX5_lay_106 (fun H locs hP hD hS => ?_)
                have hP : va_P D vwCl (wM k a mm nn we la si it be pa su wo le pp qq ro lo (upd lp (((40 * x2) + (rp x2.toNatClampNeg)).toNatClampNeg) x3) lq rp rq se no ne) H := hP
                have hD : va_D A (wM k a mm nn we la si it be pa su wo le pp qq ro lo (upd lp (((40 * x2) + (rp x2.toNatClampNeg)).toNatClampNeg) x3) lq rp rq se no ne) := hD
                refine lv_aload hx hb dX5_lay_107 (lv_at hl 1 rfl) ?_
                refine lv_iload_n hx hb dX5_lay_109 rfl (lv_at hl 4 rfl) ?_
                refine lv_dup2_11 hx hb dX5_lay_110 rfl rfl ?_
                obtain ⟨h_43, hf⟩ := hf
                refine va_iald hx hb hG.1 hP 15 0 rfl rfl h_43 dX5_lay_111 ?_
                refine lv_iconst (v := 1) hx hb dX5_lay_112 (by decide) ?_
                refine lv_iadd hx hb dX5_lay_113 ?_
                obtain ⟨h_44, hf⟩ := hf
                refine va_iast hx hb hG.1 hP hD hS 15 0 rfl rfl h_44 dX5_lay_114 (fun H locs hP hD hS => ?_)
                have hP : va_P D vwCl (wM k a mm nn we la si it be pa su wo le pp qq ro lo (upd lp (((40 * x2) + (rp x2.toNatClampNeg)).toNatClampNeg) x3) lq (upd rp (x2.toNatClampNeg) ((rp x2.toNatClampNeg) + 1)) rq se no ne) H := hP
                have hD : va_D A (wM k a mm nn we la si it be pa su wo le pp qq ro lo (upd lp (((40 * x2) + (rp x2.toNatClampNeg)).toNatClampNeg) x3) lq (upd rp (x2.toNatClampNeg) ((rp x2.toNatClampNeg) + 1)) rq se no ne) := hD
                refine lv_aload hx hb dX5_lay_115 (lv_at hl 1 rfl) ?_
                refine lv_iload_n hx hb dX5_lay_117 rfl (lv_at hl 4 rfl) ?_
                obtain ⟨h_45, hf⟩ := hf
                refine va_iald hx hb hG.1 hP 15 0 rfl rfl h_45 dX5_lay_118 ?_
                exact W.iret (v := ((upd rp (x2.toNatClampNeg) ((rp x2.toNatClampNeg) + 1)) x2.toNatClampNeg)) hx hb hr (fun t ht hW => ⟨⟨((upd rp (x2.toNatClampNeg) ((rp x2.toNatClampNeg) + 1)) x2.toNatClampNeg), ((upd lp (((40 * x2) + (rp x2.toNatClampNeg)).toNatClampNeg) x3), lq, (upd rp (x2.toNatClampNeg) ((rp x2.toNatClampNeg) + 1)), rq), rfl, hf, xHp ht hP⟩, hS.F ht⟩) hS.2.2 dX5_lay_119 hlocks
              · have hf := hf.1 c_40
                refine lv_bipush (v := (-3)) hx hb dX5_lay_91 (by decide) ?_
                exact W.iret (v := (-3)) hx hb hr (fun t ht hW => ⟨⟨((-3) : Int32), (lp, lq, rp, rq), rfl, hf, xHp ht hP⟩, hS.F ht⟩) hS.2.2 dX5_lay_93 hlocks
            · have hf := hf.2 c_38
              refine lv_iconst (v := (-1)) hx hb dX5_lay_79 (by decide) ?_
              exact W.iret (v := (-1)) hx hb hr (fun t ht hW => ⟨⟨((-1) : Int32), (lp, lq, rp, rq), rfl, hf, xHp ht hP⟩, hS.F ht⟩) hS.2.2 dX5_lay_80 hlocks
      · have hf := hf.1 c_6
        refine lv_iconst (v := (-1)) hx hb dX5_lay_34 (by decide) ?_
        exact W.iret (v := (-1)) hx hb hr (fun t ht hW => ⟨⟨((-1) : Int32), (lp, lq, rp, rq), rfl, hf, xHp ht hP⟩, hS.F ht⟩) hS.2.2 dX5_lay_35 hlocks

def p_X5_unlay_18 (post : Int32 → (Nat → Int32) → (Nat → Int32) → Prop) : Nat → (Nat → Int32) → (Nat → Int32) → Int32 → Int32 → Prop
  | 0, _, _, _, _ => False
  | n + 1, rp, rq, x1, x2 => ((9 ≤ x2 → post x1 rp rq) ∧ (¬ 9 ≤ x2 → (vp_in x2 9 ∧ (vp_in x2 9 ∧ p_X5_unlay_18 post n (upd rp (x2.toNatClampNeg) 0) (upd rq (x2.toNatClampNeg) 0) x1 (x2 + 1)))))
def p_X5_unlay (rp : Nat → Int32) (rq : Nat → Int32) (post : Int32 → (Nat → Int32) → (Nat → Int32) → Prop) : Prop := p_X5_total rp (fun r_1 => p_X5_total rq (fun r_2 => (∃ n_6, p_X5_unlay_18 post n_6 rp rq (r_1 + r_2) 0)))
theorem in_X5_unlay_X5 : ∀ w ∈ u_ws RX5 TX5 22, w ∈ wsX5_unlay := by decide +kernel
theorem lk_X5_unlay_60 : Cond.fieldLink RX5 60 "GrowingCornersModel" "rowsP" "[I" ∈ wsX5_unlay := by decide +kernel
theorem lk_X5_unlay_63 : Cond.fieldLink RX5 63 "GrowingCornersModel" "rowsQ" "[I" ∈ wsX5_unlay := by decide +kernel
set_option maxHeartbeats 4000000 in
set_option maxRecDepth 100000 in
theorem k_X5_unlay_18 {p : Program} {l : Launch} {e : Env} {s : State} {m : MethodId} {args : Array Value} {below : List Frame} {meth : Method} {c : Code} {A : Nat → Prop} {D : va_G} {k : Nat → ClassId} {a : Nat → Nat} {mm : Int32} {nn : Int32} {we : Nat → Int32} {la : Nat → Int32} {si : Nat → Int32} {it : Nat → Int32} {be : Nat → Int32} {pa : Nat → Int32} {su : Nat → Int64} {wo : Nat → Int32} {le : Int32} {pp : Nat → Int32} {qq : Nat → Int32} {ro : Nat → Int32} {lo : Nat → Int32} {lp : Nat → Int32} {lq : Nat → Int32} {se : Nat → Int32} {no : Nat → Int64} {ne : Nat → Int64} (C0 : xM p s m args meth c cX5_unlay 3 RX5 (some .int) wsX5_unlay) (hG : xG D k s) {post : Int32 → (Nat → Int32) → (Nat → Int32) → Prop} : ∀ (n : Nat) (rp : Nat → Int32) (rq : Nat → Int32) (x1 : Int32) (x2 : Int32) (H : Heap) (locs : List Loc) (ls : Array Slot), p_X5_unlay_18 post n rp rq x1 x2 → va_P D vwCl (wM k a mm nn we la si it be pa su wo le pp qq ro lo lp lq rp rq se no ne) H → va_D A (wM k a mm nn we la si it be pa su wo le pp qq ro lo lp lq rp rq se no ne) → va_S A s.heap H locs → lv_has ls 3 [(0, .ref (a 0)), (1, .int x1), (2, .int x2)] → W p l e ({ frames := 1, cells := 0, slots := 0, locals := 22 }) s m args below meth c H locs 0 0 (MQ below (va_Qi (fun (r : Int32) (u : (Nat → Int32) × (Nat → Int32)) => post r u.1 u.2) (fun u t => va_P D vwCl (wM k a mm nn we la si it be pa su wo le pp qq ro lo lp lq (u.1) (u.2) se no ne) t.heap) A) args s 0 0 A) (F0 m 18 ls []) := by
  obtain ⟨hx, hb, hr, hts, hown, hlocks, hml⟩ := id C0
  intro n
  induction n with
  | zero =>
    intro rp rq x1 x2 H locs ls hf
    exact False.elim hf
  | succ n ih =>
    intro rp rq x1 x2 H locs ls hf hP hD hS hl
    unfold p_X5_unlay_18 at hf
    refine lv_iload_n hx hb dX5_unlay_18 rfl (lv_at hl 2 rfl) ?_
    refine lv_bipush (v := 9) hx hb dX5_unlay_19 (by decide) ?_
    refine lv_icmp_ge (tgt := 44) hx hb dX5_unlay_21 (by decide) (fun c_3 => ?_) (fun c_3 => ?_)
    · have hf := hf.1 c_3
      refine lv_iload_n hx hb dX5_unlay_44 rfl (lv_at hl 1 rfl) ?_
      exact W.iret (v := x1) hx hb hr (fun t ht hW => ⟨⟨x1, (rp, rq), rfl, hf, xHp ht hP⟩, hS.F ht⟩) hS.2.2 dX5_unlay_45 hlocks
    · have hf := hf.2 c_3
      refine lv_aload_n hx hb dX5_unlay_24 rfl (lv_at hl 0 rfl) ?_
      refine va_get (D := D) (ci := 5) (C := RX5) (T := TX5) (N := 22) hx hb hts in_X5_unlay_X5 hown hG.1 hP 0 rfl rfl 17 (by decide) (hts _ lk_X5_unlay_60) (fun _ h9 => h9) rfl dX5_unlay_25 ?_
      refine lv_iload_n hx hb dX5_unlay_28 rfl (lv_at hl 2 rfl) ?_
      refine lv_iconst (v := 0) hx hb dX5_unlay_29 (by decide) ?_
      obtain ⟨h_4, hf⟩ := hf
      refine va_iast hx hb hG.1 hP hD hS 15 0 rfl rfl h_4 dX5_unlay_30 (fun H locs hP hD hS => ?_)
      have hP : va_P D vwCl (wM k a mm nn we la si it be pa su wo le pp qq ro lo lp lq (upd rp (x2.toNatClampNeg) 0) rq se no ne) H := hP
      have hD : va_D A (wM k a mm nn we la si it be pa su wo le pp qq ro lo lp lq (upd rp (x2.toNatClampNeg) 0) rq se no ne) := hD
      refine lv_aload_n hx hb dX5_unlay_31 rfl (lv_at hl 0 rfl) ?_
      refine va_get (D := D) (ci := 5) (C := RX5) (T := TX5) (N := 22) hx hb hts in_X5_unlay_X5 hown hG.1 hP 0 rfl rfl 18 (by decide) (hts _ lk_X5_unlay_63) (fun _ h9 => h9) rfl dX5_unlay_32 ?_
      refine lv_iload_n hx hb dX5_unlay_35 rfl (lv_at hl 2 rfl) ?_
      refine lv_iconst (v := 0) hx hb dX5_unlay_36 (by decide) ?_
      obtain ⟨h_5, hf⟩ := hf
      refine va_iast hx hb hG.1 hP hD hS 16 0 rfl rfl h_5 dX5_unlay_37 (fun H locs hP hD hS => ?_)
      have hP : va_P D vwCl (wM k a mm nn we la si it be pa su wo le pp qq ro lo lp lq (upd rp (x2.toNatClampNeg) 0) (upd rq (x2.toNatClampNeg) 0) se no ne) H := hP
      have hD : va_D A (wM k a mm nn we la si it be pa su wo le pp qq ro lo lp lq (upd rp (x2.toNatClampNeg) 0) (upd rq (x2.toNatClampNeg) 0) se no ne) := hD
      refine lv_iinc (v := x2 + 1) (lv' := [(2, .int (x2 + 1)), (0, .ref (a 0)), (1, .int x1)]) hx hb dX5_unlay_38 hl (k := 2) rfl rfl (by decide) rfl (fun ls hl => ?_)
      refine lv_goto (tgt := 18) hx hb dX5_unlay_41 (by decide) ?_
      exact ih (upd rp (x2.toNatClampNeg) 0) (upd rq (x2.toNatClampNeg) 0) x1 (x2 + 1) _ _ _ hf hP hD hS (lv_sub hl [1, 2, 0] rfl)
set_option maxHeartbeats 4000000 in
set_option maxRecDepth 100000 in
theorem c_X5_unlay {l : Launch} {D : va_G} {k : Nat → ClassId} (a : Nat → Nat) (mm : Int32) (nn : Int32) (we : Nat → Int32) (la : Nat → Int32) (si : Nat → Int32) (it : Nat → Int32) (be : Nat → Int32) (pa : Nat → Int32) (su : Nat → Int64) (wo : Nat → Int32) (le : Int32) (pp : Nat → Int32) (qq : Nat → Int32) (ro : Nat → Int32) (lo : Nat → Int32) (lp : Nat → Int32) (lq : Nat → Int32) (rp : Nat → Int32) (rq : Nat → Int32) (se : Nat → Int32) (no : Nat → Int64) (ne : Nat → Int64) {post : Int32 → (Nat → Int32) → (Nat → Int32) → Prop} (hf : p_X5_unlay rp rq post) : ctI l yX5_unlay wsX5_unlay ({ frames := 1, cells := 0, slots := 0, locals := 22 }) D k [.ref (a 0)] (wM k a mm nn we la si it be pa su wo le pp qq ro lo lp lq rp rq se no ne) (fun u : (Nat → Int32) × (Nat → Int32) => wM k a mm nn we la si it be pa su wo le pp qq ro lo lp lq (u.1) (u.2) se no ne) (fun (r : Int32) (u : (Nat → Int32) × (Nat → Int32)) => post r u.1 u.2) := by
  refine Met.ofW (cc := cX5_unlay) (maxL := 3) (ret := (some .int)) (by decide) rfl ?_
  intro p e s m args below meth c s₁ B hml hv
  obtain ⟨rfl, hP, hG, hD0⟩ := hv
  have C0 : xM p s m ([.ref (a 0)] : List Value).toArray meth c cX5_unlay 3 RX5 (some .int) wsX5_unlay := ⟨B.exec, B.bytes, B.returns, atoms_spec (ws := wsX5_unlay) B.pre, findClass_of_methodNamed B.named, B.notSynchronized, hml⟩
  obtain ⟨hx, hb, hr, hts, hown, hlocks, hml⟩ := id C0
  have hD := xSelf hD0
  have hS : va_S (xIn (wM k a mm nn we la si it be pa su wo le pp qq ro lo lp lq rp rq se no ne)) s.heap s.heap [] := va_S.rf
  generalize xIn (wM k a mm nn we la si it be pa su wo le pp qq ro lo lp lq rp rq se no ne) = A at hD hS ⊢
  have hl := lv_entry ([.ref (a 0)]) (n := 3) (Nat.le_of_ble_eq_true rfl)
  rw [lg_entry_eq]
  generalize (lg_sl ([.ref (a 0)]) ++ List.replicate (3 - (lg_sl ([.ref (a 0)])).length) Slot.unset).toArray = ls at hl ⊢
  have hl : lv_has ls 3 [(0, .ref (a 0))] := hl
  unfold p_X5_unlay at hf
  refine lv_aload_n hx hb dX5_unlay_0 rfl (lv_at hl 0 rfl) ?_
  refine va_get (D := D) (ci := 5) (C := RX5) (T := TX5) (N := 22) hx hb hts in_X5_unlay_X5 hown hG.1 hP 0 rfl rfl 17 (by decide) (hts _ lk_X5_unlay_60) (fun _ h9 => h9) rfl dX5_unlay_1 ?_
  have hp : xPerm (wM k a mm nn we la si it be pa su wo le pp qq ro lo lp lq rp rq se no ne) (([((a 15, .inl (k 0, 9, .inl rp)) : Nat × va_E)]) ++ ((wM k a mm nn we la si it be pa su wo le pp qq ro lo lp lq rp rq se no ne).eraseIdx 15)) := (xCut1 (i := 15) (rfl : (wM k a mm nn we la si it be pa su wo le pp qq ro lo lp lq rp rq se no ne)[15]? = some ((a 15, .inl (k 0, 9, .inl rp)) : Nat × va_E)))
  refine xCallI (w := [((a 15, .inl (k 0, 9, .inl rp)) : Nat × va_E)]) (r := (wM k a mm nn we la si it be pa su wo le pp qq ro lo lp lq rp rq se no ne).eraseIdx 15) (va_runS (As := [.ref (a 15)]) (rest := []) ⟨hx, hb, hml, hown, hts⟩ (c_X5_total (a 15) rp hf) (va_cwS 1 hts gX5_unlay_X5_total rfl rfl rfl (by decide +kernel) ⟨Nat.le_of_ble_eq_true rfl, Nat.le_of_ble_eq_true rfl⟩) (xPreS hG hP hD hp) rfl rfl hl.1 rfl (lv_room (Nat.le_of_ble_eq_true rfl)) dX5_unlay_4 ⟨Nat.zero_le _, Nat.zero_le _⟩) hP hD hS hp (fun _ => rfl) (fun r_1 _ H locs hf hP hD hS => ?_)
  have hP : va_P D vwCl (wM k a mm nn we la si it be pa su wo le pp qq ro lo lp lq rp rq se no ne) H := xP_perm (xCut1 (i := 15) (rfl : (wM k a mm nn we la si it be pa su wo le pp qq ro lo lp lq rp rq se no ne)[15]? = some ((a 15, .inl (k 0, 9, .inl rp)) : Nat × va_E))).symm hP
  have hD : va_D A (wM k a mm nn we la si it be pa su wo le pp qq ro lo lp lq rp rq se no ne) := xD_perm (xCut1 (i := 15) (rfl : (wM k a mm nn we la si it be pa su wo le pp qq ro lo lp lq rp rq se no ne)[15]? = some ((a 15, .inl (k 0, 9, .inl rp)) : Nat × va_E))).symm hD
  refine lv_aload_n hx hb dX5_unlay_7 rfl (lv_at hl 0 rfl) ?_
  refine va_get (D := D) (ci := 5) (C := RX5) (T := TX5) (N := 22) hx hb hts in_X5_unlay_X5 hown hG.1 hP 0 rfl rfl 18 (by decide) (hts _ lk_X5_unlay_63) (fun _ h9 => h9) rfl dX5_unlay_8 ?_
  have hp : xPerm (wM k a mm nn we la si it be pa su wo le pp qq ro lo lp lq rp rq se no ne) (([((a 16, .inl (k 0, 9, .inl rq)) : Nat × va_E)]) ++ ((wM k a mm nn we la si it be pa su wo le pp qq ro lo lp lq rp rq se no ne).eraseIdx 16)) := (xCut1 (i := 16) (rfl : (wM k a mm nn we la si it be pa su wo le pp qq ro lo lp lq rp rq se no ne)[16]? = some ((a 16, .inl (k 0, 9, .inl rq)) : Nat × va_E)))
  refine xCallI (w := [((a 16, .inl (k 0, 9, .inl rq)) : Nat × va_E)]) (r := (wM k a mm nn we la si it be pa su wo le pp qq ro lo lp lq rp rq se no ne).eraseIdx 16) (va_runS (As := [.ref (a 16)]) (rest := [.int r_1]) ⟨hx, hb, hml, hown, hts⟩ (c_X5_total (a 16) rq hf) (va_cwS 1 hts gX5_unlay_X5_total rfl rfl rfl (by decide +kernel) ⟨Nat.le_of_ble_eq_true rfl, Nat.le_of_ble_eq_true rfl⟩) (xPreS hG hP hD hp) rfl rfl hl.1 rfl (lv_room (Nat.le_of_ble_eq_true rfl)) dX5_unlay_11 ⟨Nat.zero_le _, Nat.zero_le _⟩) hP hD hS hp (fun _ => rfl) (fun r_2 _ H locs hf hP hD hS => ?_)
  have hP : va_P D vwCl (wM k a mm nn we la si it be pa su wo le pp qq ro lo lp lq rp rq se no ne) H := xP_perm (xCut1 (i := 16) (rfl : (wM k a mm nn we la si it be pa su wo le pp qq ro lo lp lq rp rq se no ne)[16]? = some ((a 16, .inl (k 0, 9, .inl rq)) : Nat × va_E))).symm hP
  have hD : va_D A (wM k a mm nn we la si it be pa su wo le pp qq ro lo lp lq rp rq se no ne) := xD_perm (xCut1 (i := 16) (rfl : (wM k a mm nn we la si it be pa su wo le pp qq ro lo lp lq rp rq se no ne)[16]? = some ((a 16, .inl (k 0, 9, .inl rq)) : Nat × va_E))).symm hD
  refine lv_iadd hx hb dX5_unlay_14 ?_
  refine lv_istore_n (lv' := [(1, .int (r_1 + r_2)), (0, .ref (a 0))]) hx hb dX5_unlay_15 rfl hl (by decide) rfl (fun ls hl => ?_)
  refine lv_iconst (v := 0) hx hb dX5_unlay_16 (by decide) ?_
  refine lv_istore_n (lv' := [(2, .int 0), (1, .int (r_1 + r_2)), (0, .ref (a 0))]) hx hb dX5_unlay_17 rfl hl (by decide) rfl (fun ls hl => ?_)
  obtain ⟨n_6, hf⟩ := hf
  exact k_X5_unlay_18 C0 hG n_6 rp rq (r_1 + r_2) 0 _ _ _ hf hP hD hS (lv_sub hl [2, 1, 0] rfl)

def p_X5_areTableaux_293 (lp : Nat → Int32) (lq : Nat → Int32) (rp : Nat → Int32) (rq : Nat → Int32) (post : Int32 → (Nat → Int32) → Prop) (k93 : (Nat → Int32) → Int32 → Int32 → Int32 → Prop) (k106 : (Nat → Int32) → Int32 → Int32 → Int32 → Int32 → Prop) (se : Nat → Int32) (x1 : Int32) (x3 : Int32) (x4 : Int32) (s0 : Int32) : Prop := k106 se x1 s0 x3 (x4 + 1)
def p_X5_areTableaux_292 (lp : Nat → Int32) (lq : Nat → Int32) (rp : Nat → Int32) (rq : Nat → Int32) (post : Int32 → (Nat → Int32) → Prop) (k93 : (Nat → Int32) → Int32 → Int32 → Int32 → Prop) (k106 : (Nat → Int32) → Int32 → Int32 → Int32 → Int32 → Prop) (se : Nat → Int32) (x1 : Int32) (x3 : Int32) (x4 : Int32) : Prop := p_X5_areTableaux_293 lp lq rp rq post k93 k106 se x1 x3 x4 0
def p_X5_areTableaux_288 (lp : Nat → Int32) (lq : Nat → Int32) (rp : Nat → Int32) (rq : Nat → Int32) (post : Int32 → (Nat → Int32) → Prop) (k93 : (Nat → Int32) → Int32 → Int32 → Int32 → Prop) (k106 : (Nat → Int32) → Int32 → Int32 → Int32 → Int32 → Prop) (se : Nat → Int32) (x1 : Int32) (x3 : Int32) (x4 : Int32) : Prop := p_X5_areTableaux_293 lp lq rp rq post k93 k106 se x1 x3 x4 1
def p_X5_areTableaux_239 (lp : Nat → Int32) (lq : Nat → Int32) (rp : Nat → Int32) (rq : Nat → Int32) (post : Int32 → (Nat → Int32) → Prop) (k93 : (Nat → Int32) → Int32 → Int32 → Int32 → Prop) (k106 : (Nat → Int32) → Int32 → Int32 → Int32 → Int32 → Prop) (se : Nat → Int32) (x1 : Int32) (x3 : Int32) (x4 : Int32) (x5 : Int32) (s0 : Int32) : Prop := ((s0 = 0 → p_X5_areTableaux_292 lp lq rp rq post k93 k106 se x1 x3 x4) ∧ (¬ s0 = 0 → ((x3 = 0 → p_X5_areTableaux_288 lp lq rp rq post k93 k106 se x1 x3 x4) ∧ (¬ x3 = 0 → (vp_in x5 360 ∧ (vp_in (x5 - 40) 360 ∧ (((lp x5.toNatClampNeg) ≤ (lp (x5 - 40).toNatClampNeg) → p_X5_areTableaux_292 lp lq rp rq post k93 k106 se x1 x3 x4) ∧ (¬ (lp x5.toNatClampNeg) ≤ (lp (x5 - 40).toNatClampNeg) → (vp_in x5 360 ∧ (vp_in (x5 - 40) 360 ∧ (((lq x5.toNatClampNeg) ≤ (lq (x5 - 40).toNatClampNeg) → p_X5_areTableaux_292 lp lq rp rq post k93 k106 se x1 x3 x4) ∧ (¬ (lq x5.toNatClampNeg) ≤ (lq (x5 - 40).toNatClampNeg) → p_X5_areTableaux_288 lp lq rp rq post k93 k106 se x1 x3 x4))))))))))))
def p_X5_areTableaux_238 (lp : Nat → Int32) (lq : Nat → Int32) (rp : Nat → Int32) (rq : Nat → Int32) (post : Int32 → (Nat → Int32) → Prop) (k93 : (Nat → Int32) → Int32 → Int32 → Int32 → Prop) (k106 : (Nat → Int32) → Int32 → Int32 → Int32 → Int32 → Prop) (se : Nat → Int32) (x1 : Int32) (x3 : Int32) (x4 : Int32) (x5 : Int32) : Prop := p_X5_areTableaux_239 lp lq rp rq post k93 k106 se x1 x3 x4 x5 0
def p_X5_areTableaux_234 (lp : Nat → Int32) (lq : Nat → Int32) (rp : Nat → Int32) (rq : Nat → Int32) (post : Int32 → (Nat → Int32) → Prop) (k93 : (Nat → Int32) → Int32 → Int32 → Int32 → Prop) (k106 : (Nat → Int32) → Int32 → Int32 → Int32 → Int32 → Prop) (se : Nat → Int32) (x1 : Int32) (x3 : Int32) (x4 : Int32) (x5 : Int32) : Prop := p_X5_areTableaux_239 lp lq rp rq post k93 k106 se x1 x3 x4 x5 1
def p_X5_areTableaux_173 (lp : Nat → Int32) (lq : Nat → Int32) (rp : Nat → Int32) (rq : Nat → Int32) (post : Int32 → (Nat → Int32) → Prop) (k93 : (Nat → Int32) → Int32 → Int32 → Int32 → Prop) (k106 : (Nat → Int32) → Int32 → Int32 → Int32 → Int32 → Prop) (se : Nat → Int32) (x1 : Int32) (x3 : Int32) (x4 : Int32) (x5 : Int32) (s0 : Int32) : Prop := (vp_in x5 360 ∧ (vp_in (lq x5.toNatClampNeg) 41 ∧ ((s0 = 0 → p_X5_areTableaux_238 lp lq rp rq post k93 k106 (upd se ((lq x5.toNatClampNeg).toNatClampNeg) (vp_nar .boolean 1)) x1 x3 x4 x5) ∧ (¬ s0 = 0 → ((x4 = 0 → p_X5_areTableaux_234 lp lq rp rq post k93 k106 (upd se ((lq x5.toNatClampNeg).toNatClampNeg) (vp_nar .boolean 1)) x1 x3 x4 x5) ∧ (¬ x4 = 0 → (vp_in x5 360 ∧ (vp_in (x5 - 1) 360 ∧ (((lp x5.toNatClampNeg) < (lp (x5 - 1).toNatClampNeg) → p_X5_areTableaux_238 lp lq rp rq post k93 k106 (upd se ((lq x5.toNatClampNeg).toNatClampNeg) (vp_nar .boolean 1)) x1 x3 x4 x5) ∧ (¬ (lp x5.toNatClampNeg) < (lp (x5 - 1).toNatClampNeg) → (vp_in x5 360 ∧ (vp_in (x5 - 1) 360 ∧ (((lq x5.toNatClampNeg) ≤ (lq (x5 - 1).toNatClampNeg) → p_X5_areTableaux_238 lp lq rp rq post k93 k106 (upd se ((lq x5.toNatClampNeg).toNatClampNeg) (vp_nar .boolean 1)) x1 x3 x4 x5) ∧ (¬ (lq x5.toNatClampNeg) ≤ (lq (x5 - 1).toNatClampNeg) → p_X5_areTableaux_234 lp lq rp rq post k93 k106 (upd se ((lq x5.toNatClampNeg).toNatClampNeg) (vp_nar .boolean 1)) x1 x3 x4 x5))))))))))))))
def p_X5_areTableaux_172 (lp : Nat → Int32) (lq : Nat → Int32) (rp : Nat → Int32) (rq : Nat → Int32) (post : Int32 → (Nat → Int32) → Prop) (k93 : (Nat → Int32) → Int32 → Int32 → Int32 → Prop) (k106 : (Nat → Int32) → Int32 → Int32 → Int32 → Int32 → Prop) (se : Nat → Int32) (x1 : Int32) (x3 : Int32) (x4 : Int32) (x5 : Int32) : Prop := p_X5_areTableaux_173 lp lq rp rq post k93 k106 se x1 x3 x4 x5 0
def p_X5_areTableaux_106 (lp : Nat → Int32) (lq : Nat → Int32) (rp : Nat → Int32) (rq : Nat → Int32) (post : Int32 → (Nat → Int32) → Prop) (k93 : (Nat → Int32) → Int32 → Int32 → Int32 → Prop) : Nat → (Nat → Int32) → Int32 → Int32 → Int32 → Int32 → Prop
  | 0, _, _, _, _, _ => False
  | n + 1, se, x1, x2, x3, x4 => (vp_in x3 9 ∧ (((rp x3.toNatClampNeg) ≤ x4 → k93 se x1 x2 (x3 + 1)) ∧ (¬ (rp x3.toNatClampNeg) ≤ x4 → ((x2 = 0 → p_X5_areTableaux_172 lp lq rp rq post k93 (fun se x1 x2 x3 x4 => p_X5_areTableaux_106 lp lq rp rq post k93 n se x1 x2 x3 x4) se x1 x3 x4 ((40 * x3) + x4)) ∧ (¬ x2 = 0 → (vp_in ((40 * x3) + x4) 360 ∧ ((9 < (lp ((40 * x3) + x4).toNatClampNeg) → p_X5_areTableaux_172 lp lq rp rq post k93 (fun se x1 x2 x3 x4 => p_X5_areTableaux_106 lp lq rp rq post k93 n se x1 x2 x3 x4) se x1 x3 x4 ((40 * x3) + x4)) ∧ (¬ 9 < (lp ((40 * x3) + x4).toNatClampNeg) → (vp_in ((40 * x3) + x4) 360 ∧ ((x1 < (lq ((40 * x3) + x4).toNatClampNeg) → p_X5_areTableaux_172 lp lq rp rq post k93 (fun se x1 x2 x3 x4 => p_X5_areTableaux_106 lp lq rp rq post k93 n se x1 x2 x3 x4) se x1 x3 x4 ((40 * x3) + x4)) ∧ (¬ x1 < (lq ((40 * x3) + x4).toNatClampNeg) → (vp_in ((40 * x3) + x4) 360 ∧ (vp_in (lq ((40 * x3) + x4).toNatClampNeg) 41 ∧ (((se (lq ((40 * x3) + x4).toNatClampNeg).toNatClampNeg) = 0 → p_X5_areTableaux_173 lp lq rp rq post k93 (fun se x1 x2 x3 x4 => p_X5_areTableaux_106 lp lq rp rq post k93 n se x1 x2 x3 x4) se x1 x3 x4 ((40 * x3) + x4) 1) ∧ (¬ (se (lq ((40 * x3) + x4).toNatClampNeg).toNatClampNeg) = 0 → p_X5_areTableaux_172 lp lq rp rq post k93 (fun se x1 x2 x3 x4 => p_X5_areTableaux_106 lp lq rp rq post k93 n se x1 x2 x3 x4) se x1 x3 x4 ((40 * x3) + x4))))))))))))))))
def p_X5_areTableaux_93 (lp : Nat → Int32) (lq : Nat → Int32) (rp : Nat → Int32) (rq : Nat → Int32) (post : Int32 → (Nat → Int32) → Prop) : Nat → (Nat → Int32) → Int32 → Int32 → Int32 → Prop
  | 0, _, _, _, _ => False
  | n + 1, se, x1, x2, x3 => ((9 ≤ x3 → (narrow .boolean (.int x2) = .int x2 ∧ post x2 se)) ∧ (¬ 9 ≤ x3 → ((x2 = 0 → (narrow .boolean (.int x2) = .int x2 ∧ post x2 se)) ∧ (¬ x2 = 0 → (∃ n_36, p_X5_areTableaux_106 lp lq rp rq post (fun se x1 x2 x3 => p_X5_areTableaux_93 lp lq rp rq post n se x1 x2 x3) n_36 se x1 x2 x3 0)))))
def p_X5_areTableaux_84 (lp : Nat → Int32) (lq : Nat → Int32) (rp : Nat → Int32) (rq : Nat → Int32) (post : Int32 → (Nat → Int32) → Prop) (k33 : (Nat → Int32) → Int32 → Int32 → Int32 → Prop) (se : Nat → Int32) (x1 : Int32) (x3 : Int32) (s0 : Int32) : Prop := k33 se x1 s0 (x3 + 1)
def p_X5_areTableaux_83 (lp : Nat → Int32) (lq : Nat → Int32) (rp : Nat → Int32) (rq : Nat → Int32) (post : Int32 → (Nat → Int32) → Prop) (k33 : (Nat → Int32) → Int32 → Int32 → Int32 → Prop) (se : Nat → Int32) (x1 : Int32) (x3 : Int32) : Prop := p_X5_areTableaux_84 lp lq rp rq post k33 se x1 x3 0
def p_X5_areTableaux_79 (lp : Nat → Int32) (lq : Nat → Int32) (rp : Nat → Int32) (rq : Nat → Int32) (post : Int32 → (Nat → Int32) → Prop) (k33 : (Nat → Int32) → Int32 → Int32 → Int32 → Prop) (se : Nat → Int32) (x1 : Int32) (x3 : Int32) : Prop := p_X5_areTableaux_84 lp lq rp rq post k33 se x1 x3 1
def p_X5_areTableaux_33 (lp : Nat → Int32) (lq : Nat → Int32) (rp : Nat → Int32) (rq : Nat → Int32) (post : Int32 → (Nat → Int32) → Prop) : Nat → (Nat → Int32) → Int32 → Int32 → Int32 → Prop
  | 0, _, _, _, _ => False
  | n + 1, se, x1, x2, x3 => ((9 ≤ x3 → (∃ n_37, p_X5_areTableaux_93 lp lq rp rq post n_37 se x1 x2 0)) ∧ (¬ 9 ≤ x3 → ((x2 = 0 → p_X5_areTableaux_83 lp lq rp rq post (fun se x1 x2 x3 => p_X5_areTableaux_33 lp lq rp rq post n se x1 x2 x3) se x1 x3) ∧ (¬ x2 = 0 → (vp_in x3 9 ∧ (vp_in x3 9 ∧ (((rp x3.toNatClampNeg) = (rq x3.toNatClampNeg) → ((x3 = 0 → p_X5_areTableaux_79 lp lq rp rq post (fun se x1 x2 x3 => p_X5_areTableaux_33 lp lq rp rq post n se x1 x2 x3) se x1 x3) ∧ (¬ x3 = 0 → (vp_in x3 9 ∧ (vp_in (x3 - 1) 9 ∧ (((rp (x3 - 1).toNatClampNeg) < (rp x3.toNatClampNeg) → p_X5_areTableaux_83 lp lq rp rq post (fun se x1 x2 x3 => p_X5_areTableaux_33 lp lq rp rq post n se x1 x2 x3) se x1 x3) ∧ (¬ (rp (x3 - 1).toNatClampNeg) < (rp x3.toNatClampNeg) → p_X5_areTableaux_79 lp lq rp rq post (fun se x1 x2 x3 => p_X5_areTableaux_33 lp lq rp rq post n se x1 x2 x3) se x1 x3))))))) ∧ (¬ (rp x3.toNatClampNeg) = (rq x3.toNatClampNeg) → p_X5_areTableaux_83 lp lq rp rq post (fun se x1 x2 x3 => p_X5_areTableaux_33 lp lq rp rq post n se x1 x2 x3) se x1 x3))))))))
def p_X5_areTableaux_12 (lp : Nat → Int32) (lq : Nat → Int32) (rp : Nat → Int32) (rq : Nat → Int32) (post : Int32 → (Nat → Int32) → Prop) : Nat → (Nat → Int32) → Int32 → Int32 → Int32 → Prop
  | 0, _, _, _, _ => False
  | n + 1, se, x1, x2, x3 => ((40 < x3 → (∃ n_46, p_X5_areTableaux_33 lp lq rp rq post n_46 se x1 x2 0)) ∧ (¬ 40 < x3 → (vp_in x3 41 ∧ p_X5_areTableaux_12 lp lq rp rq post n (upd se (x3.toNatClampNeg) (vp_nar .boolean 0)) x1 x2 (x3 + 1))))
def p_X5_areTableaux (lp : Nat → Int32) (lq : Nat → Int32) (rp : Nat → Int32) (rq : Nat → Int32) (se : Nat → Int32) (post : Int32 → (Nat → Int32) → Prop) : Prop := p_X5_total rp (fun r_1 => (∃ n_48, p_X5_areTableaux_12 lp lq rp rq post n_48 se r_1 1 0))
theorem in_X5_areTableaux_X5 : ∀ w ∈ u_ws RX5 TX5 22, w ∈ wsX5_areTableaux := by decide +kernel
theorem lk_X5_areTableaux_54 : Cond.fieldLink RX5 54 "GrowingCornersModel" "laidP" "[I" ∈ wsX5_areTableaux := by decide +kernel
theorem lk_X5_areTableaux_57 : Cond.fieldLink RX5 57 "GrowingCornersModel" "laidQ" "[I" ∈ wsX5_areTableaux := by decide +kernel
theorem lk_X5_areTableaux_60 : Cond.fieldLink RX5 60 "GrowingCornersModel" "rowsP" "[I" ∈ wsX5_areTableaux := by decide +kernel
theorem lk_X5_areTableaux_63 : Cond.fieldLink RX5 63 "GrowingCornersModel" "rowsQ" "[I" ∈ wsX5_areTableaux := by decide +kernel
theorem lk_X5_areTableaux_66 : Cond.fieldLink RX5 66 "GrowingCornersModel" "seen" "[Z" ∈ wsX5_areTableaux := by decide +kernel
set_option maxHeartbeats 4000000 in
set_option maxRecDepth 100000 in
theorem k_X5_areTableaux_293 {p : Program} {l : Launch} {e : Env} {s : State} {m : MethodId} {args : Array Value} {below : List Frame} {meth : Method} {c : Code} {A : Nat → Prop} {D : va_G} {k : Nat → ClassId} {a : Nat → Nat} {mm : Int32} {nn : Int32} {we : Nat → Int32} {la : Nat → Int32} {si : Nat → Int32} {it : Nat → Int32} {be : Nat → Int32} {pa : Nat → Int32} {su : Nat → Int64} {wo : Nat → Int32} {le : Int32} {pp : Nat → Int32} {qq : Nat → Int32} {ro : Nat → Int32} {lo : Nat → Int32} {lp : Nat → Int32} {lq : Nat → Int32} {rp : Nat → Int32} {rq : Nat → Int32} {no : Nat → Int64} {ne : Nat → Int64} (C0 : xM p s m args meth c cX5_areTableaux 6 RX5 (some .boolean) wsX5_areTableaux) (hG : xG D k s) {post : Int32 → (Nat → Int32) → Prop} {k93 : (Nat → Int32) → Int32 → Int32 → Int32 → Prop} (hk93 : ∀ (se : Nat → Int32) (x1 : Int32) (x2 : Int32) (x3 : Int32) (H : Heap) (locs : List Loc) (ls : Array Slot), k93 se x1 x2 x3 → va_P D vwCl (wM k a mm nn we la si it be pa su wo le pp qq ro lo lp lq rp rq se no ne) H → va_D A (wM k a mm nn we la si it be pa su wo le pp qq ro lo lp lq rp rq se no ne) → va_S A s.heap H locs → lv_has ls 6 [(0, .ref (a 0)), (1, .int x1), (2, .int x2), (3, .int x3)] → W p l e ({ frames := 1, cells := 0, slots := 0, locals := 22 }) s m args below meth c H locs 0 0 (MQ below (va_Qi (fun (r : Int32) (u : (Nat → Int32)) => post r u) (fun u t => va_P D vwCl (wM k a mm nn we la si it be pa su wo le pp qq ro lo lp lq rp rq u no ne) t.heap) A) args s 0 0 A) (F0 m 93 ls [])) {k106 : (Nat → Int32) → Int32 → Int32 → Int32 → Int32 → Prop} (hk106 : ∀ (se : Nat → Int32) (x1 : Int32) (x2 : Int32) (x3 : Int32) (x4 : Int32) (H : Heap) (locs : List Loc) (ls : Array Slot), k106 se x1 x2 x3 x4 → va_P D vwCl (wM k a mm nn we la si it be pa su wo le pp qq ro lo lp lq rp rq se no ne) H → va_D A (wM k a mm nn we la si it be pa su wo le pp qq ro lo lp lq rp rq se no ne) → va_S A s.heap H locs → lv_has ls 6 [(0, .ref (a 0)), (1, .int x1), (2, .int x2), (3, .int x3), (4, .int x4)] → W p l e ({ frames := 1, cells := 0, slots := 0, locals := 22 }) s m args below meth c H locs 0 0 (MQ below (va_Qi (fun (r : Int32) (u : (Nat → Int32)) => post r u) (fun u t => va_P D vwCl (wM k a mm nn we la si it be pa su wo le pp qq ro lo lp lq rp rq u no ne) t.heap) A) args s 0 0 A) (F0 m 106 ls [])) : ∀ (se : Nat → Int32) (x1 : Int32) (x3 : Int32) (x4 : Int32) (s0 : Int32) (H : Heap) (locs : List Loc) (ls : Array Slot), p_X5_areTableaux_293 lp lq rp rq post k93 k106 se x1 x3 x4 s0 → va_P D vwCl (wM k a mm nn we la si it be pa su wo le pp qq ro lo lp lq rp rq se no ne) H → va_D A (wM k a mm nn we la si it be pa su wo le pp qq ro lo lp lq rp rq se no ne) → va_S A s.heap H locs → lv_has ls 6 [(0, .ref (a 0)), (1, .int x1), (3, .int x3), (4, .int x4)] → W p l e ({ frames := 1, cells := 0, slots := 0, locals := 22 }) s m args below meth c H locs 0 0 (MQ below (va_Qi (fun (r : Int32) (u : (Nat → Int32)) => post r u) (fun u t => va_P D vwCl (wM k a mm nn we la si it be pa su wo le pp qq ro lo lp lq rp rq u no ne) t.heap) A) args s 0 0 A) (F0 m 293 ls [.int s0]) := by
  obtain ⟨hx, hb, hr, hts, hown, hlocks, hml⟩ := id C0
  intro se x1 x3 x4 s0 H locs ls hf hP hD hS hl
  unfold p_X5_areTableaux_293 at hf
  refine lv_istore_n (lv' := [(2, .int s0), (0, .ref (a 0)), (1, .int x1), (3, .int x3), (4, .int x4)]) hx hb dX5_areTableaux_293 rfl hl (by decide) rfl (fun ls hl => ?_)
  refine lv_iinc (v := x4 + 1) (lv' := [(4, .int (x4 + 1)), (2, .int s0), (0, .ref (a 0)), (1, .int x1), (3, .int x3)]) hx hb dX5_areTableaux_294 hl (k := 4) rfl rfl (by decide) rfl (fun ls hl => ?_)
  refine lv_goto (tgt := 106) hx hb dX5_areTableaux_297 (by decide) ?_
  exact hk106 se x1 s0 x3 (x4 + 1) _ _ _ hf hP hD hS (lv_sub hl [2, 3, 1, 4, 0] rfl)
set_option maxHeartbeats 4000000 in
set_option maxRecDepth 100000 in
theorem k_X5_areTableaux_292 {p : Program} {l : Launch} {e : Env} {s : State} {m : MethodId} {args : Array Value} {below : List Frame} {meth : Method} {c : Code} {A : Nat → Prop} {D : va_G} {k : Nat → ClassId} {a : Nat → Nat} {mm : Int32} {nn : Int32} {we : Nat → Int32} {la : Nat → Int32} {si : Nat → Int32} {it : Nat → Int32} {be : Nat → Int32} {pa : Nat → Int32} {su : Nat → Int64} {wo : Nat → Int32} {le : Int32} {pp : Nat → Int32} {qq : Nat → Int32} {ro : Nat → Int32} {lo : Nat → Int32} {lp : Nat → Int32} {lq : Nat → Int32} {rp : Nat → Int32} {rq : Nat → Int32} {no : Nat → Int64} {ne : Nat → Int64} (C0 : xM p s m args meth c cX5_areTableaux 6 RX5 (some .boolean) wsX5_areTableaux) (hG : xG D k s) {post : Int32 → (Nat → Int32) → Prop} {k93 : (Nat → Int32) → Int32 → Int32 → Int32 → Prop} (hk93 : ∀ (se : Nat → Int32) (x1 : Int32) (x2 : Int32) (x3 : Int32) (H : Heap) (locs : List Loc) (ls : Array Slot), k93 se x1 x2 x3 → va_P D vwCl (wM k a mm nn we la si it be pa su wo le pp qq ro lo lp lq rp rq se no ne) H → va_D A (wM k a mm nn we la si it be pa su wo le pp qq ro lo lp lq rp rq se no ne) → va_S A s.heap H locs → lv_has ls 6 [(0, .ref (a 0)), (1, .int x1), (2, .int x2), (3, .int x3)] → W p l e ({ frames := 1, cells := 0, slots := 0, locals := 22 }) s m args below meth c H locs 0 0 (MQ below (va_Qi (fun (r : Int32) (u : (Nat → Int32)) => post r u) (fun u t => va_P D vwCl (wM k a mm nn we la si it be pa su wo le pp qq ro lo lp lq rp rq u no ne) t.heap) A) args s 0 0 A) (F0 m 93 ls [])) {k106 : (Nat → Int32) → Int32 → Int32 → Int32 → Int32 → Prop} (hk106 : ∀ (se : Nat → Int32) (x1 : Int32) (x2 : Int32) (x3 : Int32) (x4 : Int32) (H : Heap) (locs : List Loc) (ls : Array Slot), k106 se x1 x2 x3 x4 → va_P D vwCl (wM k a mm nn we la si it be pa su wo le pp qq ro lo lp lq rp rq se no ne) H → va_D A (wM k a mm nn we la si it be pa su wo le pp qq ro lo lp lq rp rq se no ne) → va_S A s.heap H locs → lv_has ls 6 [(0, .ref (a 0)), (1, .int x1), (2, .int x2), (3, .int x3), (4, .int x4)] → W p l e ({ frames := 1, cells := 0, slots := 0, locals := 22 }) s m args below meth c H locs 0 0 (MQ below (va_Qi (fun (r : Int32) (u : (Nat → Int32)) => post r u) (fun u t => va_P D vwCl (wM k a mm nn we la si it be pa su wo le pp qq ro lo lp lq rp rq u no ne) t.heap) A) args s 0 0 A) (F0 m 106 ls [])) : ∀ (se : Nat → Int32) (x1 : Int32) (x3 : Int32) (x4 : Int32) (H : Heap) (locs : List Loc) (ls : Array Slot), p_X5_areTableaux_292 lp lq rp rq post k93 k106 se x1 x3 x4 → va_P D vwCl (wM k a mm nn we la si it be pa su wo le pp qq ro lo lp lq rp rq se no ne) H → va_D A (wM k a mm nn we la si it be pa su wo le pp qq ro lo lp lq rp rq se no ne) → va_S A s.heap H locs → lv_has ls 6 [(0, .ref (a 0)), (1, .int x1), (3, .int x3), (4, .int x4)] → W p l e ({ frames := 1, cells := 0, slots := 0, locals := 22 }) s m args below meth c H locs 0 0 (MQ below (va_Qi (fun (r : Int32) (u : (Nat → Int32)) => post r u) (fun u t => va_P D vwCl (wM k a mm nn we la si it be pa su wo le pp qq ro lo lp lq rp rq u no ne) t.heap) A) args s 0 0 A) (F0 m 292 ls []) := by
  obtain ⟨hx, hb, hr, hts, hown, hlocks, hml⟩ := id C0
  intro se x1 x3 x4 H locs ls hf hP hD hS hl
  unfold p_X5_areTableaux_292 at hf
  refine lv_iconst (v := 0) hx hb dX5_areTableaux_292 (by decide) ?_
  exact k_X5_areTableaux_293 C0 hG hk93 hk106 se x1 x3 x4 0 _ _ _ hf hP hD hS (lv_sub hl [0, 1, 2, 3] rfl)
set_option maxHeartbeats 4000000 in
set_option maxRecDepth 100000 in
theorem k_X5_areTableaux_288 {p : Program} {l : Launch} {e : Env} {s : State} {m : MethodId} {args : Array Value} {below : List Frame} {meth : Method} {c : Code} {A : Nat → Prop} {D : va_G} {k : Nat → ClassId} {a : Nat → Nat} {mm : Int32} {nn : Int32} {we : Nat → Int32} {la : Nat → Int32} {si : Nat → Int32} {it : Nat → Int32} {be : Nat → Int32} {pa : Nat → Int32} {su : Nat → Int64} {wo : Nat → Int32} {le : Int32} {pp : Nat → Int32} {qq : Nat → Int32} {ro : Nat → Int32} {lo : Nat → Int32} {lp : Nat → Int32} {lq : Nat → Int32} {rp : Nat → Int32} {rq : Nat → Int32} {no : Nat → Int64} {ne : Nat → Int64} (C0 : xM p s m args meth c cX5_areTableaux 6 RX5 (some .boolean) wsX5_areTableaux) (hG : xG D k s) {post : Int32 → (Nat → Int32) → Prop} {k93 : (Nat → Int32) → Int32 → Int32 → Int32 → Prop} (hk93 : ∀ (se : Nat → Int32) (x1 : Int32) (x2 : Int32) (x3 : Int32) (H : Heap) (locs : List Loc) (ls : Array Slot), k93 se x1 x2 x3 → va_P D vwCl (wM k a mm nn we la si it be pa su wo le pp qq ro lo lp lq rp rq se no ne) H → va_D A (wM k a mm nn we la si it be pa su wo le pp qq ro lo lp lq rp rq se no ne) → va_S A s.heap H locs → lv_has ls 6 [(0, .ref (a 0)), (1, .int x1), (2, .int x2), (3, .int x3)] → W p l e ({ frames := 1, cells := 0, slots := 0, locals := 22 }) s m args below meth c H locs 0 0 (MQ below (va_Qi (fun (r : Int32) (u : (Nat → Int32)) => post r u) (fun u t => va_P D vwCl (wM k a mm nn we la si it be pa su wo le pp qq ro lo lp lq rp rq u no ne) t.heap) A) args s 0 0 A) (F0 m 93 ls [])) {k106 : (Nat → Int32) → Int32 → Int32 → Int32 → Int32 → Prop} (hk106 : ∀ (se : Nat → Int32) (x1 : Int32) (x2 : Int32) (x3 : Int32) (x4 : Int32) (H : Heap) (locs : List Loc) (ls : Array Slot), k106 se x1 x2 x3 x4 → va_P D vwCl (wM k a mm nn we la si it be pa su wo le pp qq ro lo lp lq rp rq se no ne) H → va_D A (wM k a mm nn we la si it be pa su wo le pp qq ro lo lp lq rp rq se no ne) → va_S A s.heap H locs → lv_has ls 6 [(0, .ref (a 0)), (1, .int x1), (2, .int x2), (3, .int x3), (4, .int x4)] → W p l e ({ frames := 1, cells := 0, slots := 0, locals := 22 }) s m args below meth c H locs 0 0 (MQ below (va_Qi (fun (r : Int32) (u : (Nat → Int32)) => post r u) (fun u t => va_P D vwCl (wM k a mm nn we la si it be pa su wo le pp qq ro lo lp lq rp rq u no ne) t.heap) A) args s 0 0 A) (F0 m 106 ls [])) : ∀ (se : Nat → Int32) (x1 : Int32) (x3 : Int32) (x4 : Int32) (H : Heap) (locs : List Loc) (ls : Array Slot), p_X5_areTableaux_288 lp lq rp rq post k93 k106 se x1 x3 x4 → va_P D vwCl (wM k a mm nn we la si it be pa su wo le pp qq ro lo lp lq rp rq se no ne) H → va_D A (wM k a mm nn we la si it be pa su wo le pp qq ro lo lp lq rp rq se no ne) → va_S A s.heap H locs → lv_has ls 6 [(0, .ref (a 0)), (1, .int x1), (3, .int x3), (4, .int x4)] → W p l e ({ frames := 1, cells := 0, slots := 0, locals := 22 }) s m args below meth c H locs 0 0 (MQ below (va_Qi (fun (r : Int32) (u : (Nat → Int32)) => post r u) (fun u t => va_P D vwCl (wM k a mm nn we la si it be pa su wo le pp qq ro lo lp lq rp rq u no ne) t.heap) A) args s 0 0 A) (F0 m 288 ls []) := by
  obtain ⟨hx, hb, hr, hts, hown, hlocks, hml⟩ := id C0
  intro se x1 x3 x4 H locs ls hf hP hD hS hl
  unfold p_X5_areTableaux_288 at hf
  refine lv_iconst (v := 1) hx hb dX5_areTableaux_288 (by decide) ?_
  refine lv_goto (tgt := 293) hx hb dX5_areTableaux_289 (by decide) ?_
  exact k_X5_areTableaux_293 C0 hG hk93 hk106 se x1 x3 x4 1 _ _ _ hf hP hD hS (lv_sub hl [0, 1, 2, 3] rfl)
set_option maxHeartbeats 4000000 in
set_option maxRecDepth 100000 in
theorem k_X5_areTableaux_239 {p : Program} {l : Launch} {e : Env} {s : State} {m : MethodId} {args : Array Value} {below : List Frame} {meth : Method} {c : Code} {A : Nat → Prop} {D : va_G} {k : Nat → ClassId} {a : Nat → Nat} {mm : Int32} {nn : Int32} {we : Nat → Int32} {la : Nat → Int32} {si : Nat → Int32} {it : Nat → Int32} {be : Nat → Int32} {pa : Nat → Int32} {su : Nat → Int64} {wo : Nat → Int32} {le : Int32} {pp : Nat → Int32} {qq : Nat → Int32} {ro : Nat → Int32} {lo : Nat → Int32} {lp : Nat → Int32} {lq : Nat → Int32} {rp : Nat → Int32} {rq : Nat → Int32} {no : Nat → Int64} {ne : Nat → Int64} (C0 : xM p s m args meth c cX5_areTableaux 6 RX5 (some .boolean) wsX5_areTableaux) (hG : xG D k s) {post : Int32 → (Nat → Int32) → Prop} {k93 : (Nat → Int32) → Int32 → Int32 → Int32 → Prop} (hk93 : ∀ (se : Nat → Int32) (x1 : Int32) (x2 : Int32) (x3 : Int32) (H : Heap) (locs : List Loc) (ls : Array Slot), k93 se x1 x2 x3 → va_P D vwCl (wM k a mm nn we la si it be pa su wo le pp qq ro lo lp lq rp rq se no ne) H → va_D A (wM k a mm nn we la si it be pa su wo le pp qq ro lo lp lq rp rq se no ne) → va_S A s.heap H locs → lv_has ls 6 [(0, .ref (a 0)), (1, .int x1), (2, .int x2), (3, .int x3)] → W p l e ({ frames := 1, cells := 0, slots := 0, locals := 22 }) s m args below meth c H locs 0 0 (MQ below (va_Qi (fun (r : Int32) (u : (Nat → Int32)) => post r u) (fun u t => va_P D vwCl (wM k a mm nn we la si it be pa su wo le pp qq ro lo lp lq rp rq u no ne) t.heap) A) args s 0 0 A) (F0 m 93 ls [])) {k106 : (Nat → Int32) → Int32 → Int32 → Int32 → Int32 → Prop} (hk106 : ∀ (se : Nat → Int32) (x1 : Int32) (x2 : Int32) (x3 : Int32) (x4 : Int32) (H : Heap) (locs : List Loc) (ls : Array Slot), k106 se x1 x2 x3 x4 → va_P D vwCl (wM k a mm nn we la si it be pa su wo le pp qq ro lo lp lq rp rq se no ne) H → va_D A (wM k a mm nn we la si it be pa su wo le pp qq ro lo lp lq rp rq se no ne) → va_S A s.heap H locs → lv_has ls 6 [(0, .ref (a 0)), (1, .int x1), (2, .int x2), (3, .int x3), (4, .int x4)] → W p l e ({ frames := 1, cells := 0, slots := 0, locals := 22 }) s m args below meth c H locs 0 0 (MQ below (va_Qi (fun (r : Int32) (u : (Nat → Int32)) => post r u) (fun u t => va_P D vwCl (wM k a mm nn we la si it be pa su wo le pp qq ro lo lp lq rp rq u no ne) t.heap) A) args s 0 0 A) (F0 m 106 ls [])) : ∀ (se : Nat → Int32) (x1 : Int32) (x3 : Int32) (x4 : Int32) (x5 : Int32) (s0 : Int32) (H : Heap) (locs : List Loc) (ls : Array Slot), p_X5_areTableaux_239 lp lq rp rq post k93 k106 se x1 x3 x4 x5 s0 → va_P D vwCl (wM k a mm nn we la si it be pa su wo le pp qq ro lo lp lq rp rq se no ne) H → va_D A (wM k a mm nn we la si it be pa su wo le pp qq ro lo lp lq rp rq se no ne) → va_S A s.heap H locs → lv_has ls 6 [(0, .ref (a 0)), (1, .int x1), (3, .int x3), (4, .int x4), (5, .int x5)] → W p l e ({ frames := 1, cells := 0, slots := 0, locals := 22 }) s m args below meth c H locs 0 0 (MQ below (va_Qi (fun (r : Int32) (u : (Nat → Int32)) => post r u) (fun u t => va_P D vwCl (wM k a mm nn we la si it be pa su wo le pp qq ro lo lp lq rp rq u no ne) t.heap) A) args s 0 0 A) (F0 m 239 ls [.int s0]) := by
  obtain ⟨hx, hb, hr, hts, hown, hlocks, hml⟩ := id C0
  intro se x1 x3 x4 x5 s0 H locs ls hf hP hD hS hl
  unfold p_X5_areTableaux_239 at hf
  refine lv_istore_n (lv' := [(2, .int s0), (0, .ref (a 0)), (1, .int x1), (3, .int x3), (4, .int x4), (5, .int x5)]) hx hb dX5_areTableaux_239 rfl hl (by decide) rfl (fun ls hl => ?_)
  refine lv_iload_n hx hb dX5_areTableaux_240 rfl (lv_at hl 0 rfl) ?_
  refine lv_if_eq (tgt := 292) hx hb dX5_areTableaux_241 (by decide) (fun c_14 => ?_) (fun c_14 => ?_)
  · have hf := hf.1 c_14
    exact k_X5_areTableaux_292 C0 hG hk93 hk106 se x1 x3 x4 _ _ _ hf hP hD hS (lv_sub hl [1, 2, 3, 4] rfl)
  · have hf := hf.2 c_14
    refine lv_iload_n hx hb dX5_areTableaux_244 rfl (lv_at hl 3 rfl) ?_
    refine lv_if_eq (tgt := 288) hx hb dX5_areTableaux_245 (by decide) (fun c_15 => ?_) (fun c_15 => ?_)
    · have hf := hf.1 c_15
      exact k_X5_areTableaux_288 C0 hG hk93 hk106 se x1 x3 x4 _ _ _ hf hP hD hS (lv_sub hl [1, 2, 3, 4] rfl)
    · have hf := hf.2 c_15
      refine lv_aload_n hx hb dX5_areTableaux_248 rfl (lv_at hl 1 rfl) ?_
      refine va_get (D := D) (ci := 5) (C := RX5) (T := TX5) (N := 22) hx hb hts in_X5_areTableaux_X5 hown hG.1 hP 0 rfl rfl 15 (by decide) (hts _ lk_X5_areTableaux_54) (fun _ h9 => h9) rfl dX5_areTableaux_249 ?_
      refine lv_iload hx hb dX5_areTableaux_252 (lv_at hl 5 rfl) ?_
      obtain ⟨h_16, hf⟩ := hf
      refine va_iald hx hb hG.1 hP 13 0 rfl rfl h_16 dX5_areTableaux_254 ?_
      refine lv_aload_n hx hb dX5_areTableaux_255 rfl (lv_at hl 1 rfl) ?_
      refine va_get (D := D) (ci := 5) (C := RX5) (T := TX5) (N := 22) hx hb hts in_X5_areTableaux_X5 hown hG.1 hP 0 rfl rfl 15 (by decide) (hts _ lk_X5_areTableaux_54) (fun _ h9 => h9) rfl dX5_areTableaux_256 ?_
      refine lv_iload hx hb dX5_areTableaux_259 (lv_at hl 5 rfl) ?_
      refine lv_bipush (v := 40) hx hb dX5_areTableaux_261 (by decide) ?_
      refine lv_isub hx hb dX5_areTableaux_263 ?_
      obtain ⟨h_17, hf⟩ := hf
      refine va_iald hx hb hG.1 hP 13 0 rfl rfl h_17 dX5_areTableaux_264 ?_
      refine lv_icmp_le (tgt := 292) hx hb dX5_areTableaux_265 (by decide) (fun c_18 => ?_) (fun c_18 => ?_)
      · have hf := hf.1 c_18
        exact k_X5_areTableaux_292 C0 hG hk93 hk106 se x1 x3 x4 _ _ _ hf hP hD hS (lv_sub hl [1, 2, 3, 4] rfl)
      · have hf := hf.2 c_18
        refine lv_aload_n hx hb dX5_areTableaux_268 rfl (lv_at hl 1 rfl) ?_
        refine va_get (D := D) (ci := 5) (C := RX5) (T := TX5) (N := 22) hx hb hts in_X5_areTableaux_X5 hown hG.1 hP 0 rfl rfl 16 (by decide) (hts _ lk_X5_areTableaux_57) (fun _ h9 => h9) rfl dX5_areTableaux_269 ?_
        refine lv_iload hx hb dX5_areTableaux_272 (lv_at hl 5 rfl) ?_
        obtain ⟨h_19, hf⟩ := hf
        refine va_iald hx hb hG.1 hP 14 0 rfl rfl h_19 dX5_areTableaux_274 ?_
        refine lv_aload_n hx hb dX5_areTableaux_275 rfl (lv_at hl 1 rfl) ?_
        refine va_get (D := D) (ci := 5) (C := RX5) (T := TX5) (N := 22) hx hb hts in_X5_areTableaux_X5 hown hG.1 hP 0 rfl rfl 16 (by decide) (hts _ lk_X5_areTableaux_57) (fun _ h9 => h9) rfl dX5_areTableaux_276 ?_
        refine lv_iload hx hb dX5_areTableaux_279 (lv_at hl 5 rfl) ?_
        refine lv_bipush (v := 40) hx hb dX5_areTableaux_281 (by decide) ?_
        refine lv_isub hx hb dX5_areTableaux_283 ?_
        obtain ⟨h_20, hf⟩ := hf
        refine va_iald hx hb hG.1 hP 14 0 rfl rfl h_20 dX5_areTableaux_284 ?_
        refine lv_icmp_le (tgt := 292) hx hb dX5_areTableaux_285 (by decide) (fun c_21 => ?_) (fun c_21 => ?_)
        · have hf := hf.1 c_21
          exact k_X5_areTableaux_292 C0 hG hk93 hk106 se x1 x3 x4 _ _ _ hf hP hD hS (lv_sub hl [1, 2, 3, 4] rfl)
        · have hf := hf.2 c_21
          exact k_X5_areTableaux_288 C0 hG hk93 hk106 se x1 x3 x4 _ _ _ hf hP hD hS (lv_sub hl [1, 2, 3, 4] rfl)
set_option maxHeartbeats 4000000 in
set_option maxRecDepth 100000 in
theorem k_X5_areTableaux_238 {p : Program} {l : Launch} {e : Env} {s : State} {m : MethodId} {args : Array Value} {below : List Frame} {meth : Method} {c : Code} {A : Nat → Prop} {D : va_G} {k : Nat → ClassId} {a : Nat → Nat} {mm : Int32} {nn : Int32} {we : Nat → Int32} {la : Nat → Int32} {si : Nat → Int32} {it : Nat → Int32} {be : Nat → Int32} {pa : Nat → Int32} {su : Nat → Int64} {wo : Nat → Int32} {le : Int32} {pp : Nat → Int32} {qq : Nat → Int32} {ro : Nat → Int32} {lo : Nat → Int32} {lp : Nat → Int32} {lq : Nat → Int32} {rp : Nat → Int32} {rq : Nat → Int32} {no : Nat → Int64} {ne : Nat → Int64} (C0 : xM p s m args meth c cX5_areTableaux 6 RX5 (some .boolean) wsX5_areTableaux) (hG : xG D k s) {post : Int32 → (Nat → Int32) → Prop} {k93 : (Nat → Int32) → Int32 → Int32 → Int32 → Prop} (hk93 : ∀ (se : Nat → Int32) (x1 : Int32) (x2 : Int32) (x3 : Int32) (H : Heap) (locs : List Loc) (ls : Array Slot), k93 se x1 x2 x3 → va_P D vwCl (wM k a mm nn we la si it be pa su wo le pp qq ro lo lp lq rp rq se no ne) H → va_D A (wM k a mm nn we la si it be pa su wo le pp qq ro lo lp lq rp rq se no ne) → va_S A s.heap H locs → lv_has ls 6 [(0, .ref (a 0)), (1, .int x1), (2, .int x2), (3, .int x3)] → W p l e ({ frames := 1, cells := 0, slots := 0, locals := 22 }) s m args below meth c H locs 0 0 (MQ below (va_Qi (fun (r : Int32) (u : (Nat → Int32)) => post r u) (fun u t => va_P D vwCl (wM k a mm nn we la si it be pa su wo le pp qq ro lo lp lq rp rq u no ne) t.heap) A) args s 0 0 A) (F0 m 93 ls [])) {k106 : (Nat → Int32) → Int32 → Int32 → Int32 → Int32 → Prop} (hk106 : ∀ (se : Nat → Int32) (x1 : Int32) (x2 : Int32) (x3 : Int32) (x4 : Int32) (H : Heap) (locs : List Loc) (ls : Array Slot), k106 se x1 x2 x3 x4 → va_P D vwCl (wM k a mm nn we la si it be pa su wo le pp qq ro lo lp lq rp rq se no ne) H → va_D A (wM k a mm nn we la si it be pa su wo le pp qq ro lo lp lq rp rq se no ne) → va_S A s.heap H locs → lv_has ls 6 [(0, .ref (a 0)), (1, .int x1), (2, .int x2), (3, .int x3), (4, .int x4)] → W p l e ({ frames := 1, cells := 0, slots := 0, locals := 22 }) s m args below meth c H locs 0 0 (MQ below (va_Qi (fun (r : Int32) (u : (Nat → Int32)) => post r u) (fun u t => va_P D vwCl (wM k a mm nn we la si it be pa su wo le pp qq ro lo lp lq rp rq u no ne) t.heap) A) args s 0 0 A) (F0 m 106 ls [])) : ∀ (se : Nat → Int32) (x1 : Int32) (x3 : Int32) (x4 : Int32) (x5 : Int32) (H : Heap) (locs : List Loc) (ls : Array Slot), p_X5_areTableaux_238 lp lq rp rq post k93 k106 se x1 x3 x4 x5 → va_P D vwCl (wM k a mm nn we la si it be pa su wo le pp qq ro lo lp lq rp rq se no ne) H → va_D A (wM k a mm nn we la si it be pa su wo le pp qq ro lo lp lq rp rq se no ne) → va_S A s.heap H locs → lv_has ls 6 [(0, .ref (a 0)), (1, .int x1), (3, .int x3), (4, .int x4), (5, .int x5)] → W p l e ({ frames := 1, cells := 0, slots := 0, locals := 22 }) s m args below meth c H locs 0 0 (MQ below (va_Qi (fun (r : Int32) (u : (Nat → Int32)) => post r u) (fun u t => va_P D vwCl (wM k a mm nn we la si it be pa su wo le pp qq ro lo lp lq rp rq u no ne) t.heap) A) args s 0 0 A) (F0 m 238 ls []) := by
  obtain ⟨hx, hb, hr, hts, hown, hlocks, hml⟩ := id C0
  intro se x1 x3 x4 x5 H locs ls hf hP hD hS hl
  unfold p_X5_areTableaux_238 at hf
  refine lv_iconst (v := 0) hx hb dX5_areTableaux_238 (by decide) ?_
  exact k_X5_areTableaux_239 C0 hG hk93 hk106 se x1 x3 x4 x5 0 _ _ _ hf hP hD hS (lv_sub hl [0, 1, 2, 3, 4] rfl)
set_option maxHeartbeats 4000000 in
set_option maxRecDepth 100000 in
theorem k_X5_areTableaux_234 {p : Program} {l : Launch} {e : Env} {s : State} {m : MethodId} {args : Array Value} {below : List Frame} {meth : Method} {c : Code} {A : Nat → Prop} {D : va_G} {k : Nat → ClassId} {a : Nat → Nat} {mm : Int32} {nn : Int32} {we : Nat → Int32} {la : Nat → Int32} {si : Nat → Int32} {it : Nat → Int32} {be : Nat → Int32} {pa : Nat → Int32} {su : Nat → Int64} {wo : Nat → Int32} {le : Int32} {pp : Nat → Int32} {qq : Nat → Int32} {ro : Nat → Int32} {lo : Nat → Int32} {lp : Nat → Int32} {lq : Nat → Int32} {rp : Nat → Int32} {rq : Nat → Int32} {no : Nat → Int64} {ne : Nat → Int64} (C0 : xM p s m args meth c cX5_areTableaux 6 RX5 (some .boolean) wsX5_areTableaux) (hG : xG D k s) {post : Int32 → (Nat → Int32) → Prop} {k93 : (Nat → Int32) → Int32 → Int32 → Int32 → Prop} (hk93 : ∀ (se : Nat → Int32) (x1 : Int32) (x2 : Int32) (x3 : Int32) (H : Heap) (locs : List Loc) (ls : Array Slot), k93 se x1 x2 x3 → va_P D vwCl (wM k a mm nn we la si it be pa su wo le pp qq ro lo lp lq rp rq se no ne) H → va_D A (wM k a mm nn we la si it be pa su wo le pp qq ro lo lp lq rp rq se no ne) → va_S A s.heap H locs → lv_has ls 6 [(0, .ref (a 0)), (1, .int x1), (2, .int x2), (3, .int x3)] → W p l e ({ frames := 1, cells := 0, slots := 0, locals := 22 }) s m args below meth c H locs 0 0 (MQ below (va_Qi (fun (r : Int32) (u : (Nat → Int32)) => post r u) (fun u t => va_P D vwCl (wM k a mm nn we la si it be pa su wo le pp qq ro lo lp lq rp rq u no ne) t.heap) A) args s 0 0 A) (F0 m 93 ls [])) {k106 : (Nat → Int32) → Int32 → Int32 → Int32 → Int32 → Prop} (hk106 : ∀ (se : Nat → Int32) (x1 : Int32) (x2 : Int32) (x3 : Int32) (x4 : Int32) (H : Heap) (locs : List Loc) (ls : Array Slot), k106 se x1 x2 x3 x4 → va_P D vwCl (wM k a mm nn we la si it be pa su wo le pp qq ro lo lp lq rp rq se no ne) H → va_D A (wM k a mm nn we la si it be pa su wo le pp qq ro lo lp lq rp rq se no ne) → va_S A s.heap H locs → lv_has ls 6 [(0, .ref (a 0)), (1, .int x1), (2, .int x2), (3, .int x3), (4, .int x4)] → W p l e ({ frames := 1, cells := 0, slots := 0, locals := 22 }) s m args below meth c H locs 0 0 (MQ below (va_Qi (fun (r : Int32) (u : (Nat → Int32)) => post r u) (fun u t => va_P D vwCl (wM k a mm nn we la si it be pa su wo le pp qq ro lo lp lq rp rq u no ne) t.heap) A) args s 0 0 A) (F0 m 106 ls [])) : ∀ (se : Nat → Int32) (x1 : Int32) (x3 : Int32) (x4 : Int32) (x5 : Int32) (H : Heap) (locs : List Loc) (ls : Array Slot), p_X5_areTableaux_234 lp lq rp rq post k93 k106 se x1 x3 x4 x5 → va_P D vwCl (wM k a mm nn we la si it be pa su wo le pp qq ro lo lp lq rp rq se no ne) H → va_D A (wM k a mm nn we la si it be pa su wo le pp qq ro lo lp lq rp rq se no ne) → va_S A s.heap H locs → lv_has ls 6 [(0, .ref (a 0)), (1, .int x1), (3, .int x3), (4, .int x4), (5, .int x5)] → W p l e ({ frames := 1, cells := 0, slots := 0, locals := 22 }) s m args below meth c H locs 0 0 (MQ below (va_Qi (fun (r : Int32) (u : (Nat → Int32)) => post r u) (fun u t => va_P D vwCl (wM k a mm nn we la si it be pa su wo le pp qq ro lo lp lq rp rq u no ne) t.heap) A) args s 0 0 A) (F0 m 234 ls []) := by
  obtain ⟨hx, hb, hr, hts, hown, hlocks, hml⟩ := id C0
  intro se x1 x3 x4 x5 H locs ls hf hP hD hS hl
  unfold p_X5_areTableaux_234 at hf
  refine lv_iconst (v := 1) hx hb dX5_areTableaux_234 (by decide) ?_
  refine lv_goto (tgt := 239) hx hb dX5_areTableaux_235 (by decide) ?_
  exact k_X5_areTableaux_239 C0 hG hk93 hk106 se x1 x3 x4 x5 1 _ _ _ hf hP hD hS (lv_sub hl [0, 1, 2, 3, 4] rfl)
set_option maxHeartbeats 4000000 in
set_option maxRecDepth 100000 in
theorem k_X5_areTableaux_173 {p : Program} {l : Launch} {e : Env} {s : State} {m : MethodId} {args : Array Value} {below : List Frame} {meth : Method} {c : Code} {A : Nat → Prop} {D : va_G} {k : Nat → ClassId} {a : Nat → Nat} {mm : Int32} {nn : Int32} {we : Nat → Int32} {la : Nat → Int32} {si : Nat → Int32} {it : Nat → Int32} {be : Nat → Int32} {pa : Nat → Int32} {su : Nat → Int64} {wo : Nat → Int32} {le : Int32} {pp : Nat → Int32} {qq : Nat → Int32} {ro : Nat → Int32} {lo : Nat → Int32} {lp : Nat → Int32} {lq : Nat → Int32} {rp : Nat → Int32} {rq : Nat → Int32} {no : Nat → Int64} {ne : Nat → Int64} (C0 : xM p s m args meth c cX5_areTableaux 6 RX5 (some .boolean) wsX5_areTableaux) (hG : xG D k s) {post : Int32 → (Nat → Int32) → Prop} {k93 : (Nat → Int32) → Int32 → Int32 → Int32 → Prop} (hk93 : ∀ (se : Nat → Int32) (x1 : Int32) (x2 : Int32) (x3 : Int32) (H : Heap) (locs : List Loc) (ls : Array Slot), k93 se x1 x2 x3 → va_P D vwCl (wM k a mm nn we la si it be pa su wo le pp qq ro lo lp lq rp rq se no ne) H → va_D A (wM k a mm nn we la si it be pa su wo le pp qq ro lo lp lq rp rq se no ne) → va_S A s.heap H locs → lv_has ls 6 [(0, .ref (a 0)), (1, .int x1), (2, .int x2), (3, .int x3)] → W p l e ({ frames := 1, cells := 0, slots := 0, locals := 22 }) s m args below meth c H locs 0 0 (MQ below (va_Qi (fun (r : Int32) (u : (Nat → Int32)) => post r u) (fun u t => va_P D vwCl (wM k a mm nn we la si it be pa su wo le pp qq ro lo lp lq rp rq u no ne) t.heap) A) args s 0 0 A) (F0 m 93 ls [])) {k106 : (Nat → Int32) → Int32 → Int32 → Int32 → Int32 → Prop} (hk106 : ∀ (se : Nat → Int32) (x1 : Int32) (x2 : Int32) (x3 : Int32) (x4 : Int32) (H : Heap) (locs : List Loc) (ls : Array Slot), k106 se x1 x2 x3 x4 → va_P D vwCl (wM k a mm nn we la si it be pa su wo le pp qq ro lo lp lq rp rq se no ne) H → va_D A (wM k a mm nn we la si it be pa su wo le pp qq ro lo lp lq rp rq se no ne) → va_S A s.heap H locs → lv_has ls 6 [(0, .ref (a 0)), (1, .int x1), (2, .int x2), (3, .int x3), (4, .int x4)] → W p l e ({ frames := 1, cells := 0, slots := 0, locals := 22 }) s m args below meth c H locs 0 0 (MQ below (va_Qi (fun (r : Int32) (u : (Nat → Int32)) => post r u) (fun u t => va_P D vwCl (wM k a mm nn we la si it be pa su wo le pp qq ro lo lp lq rp rq u no ne) t.heap) A) args s 0 0 A) (F0 m 106 ls [])) : ∀ (se : Nat → Int32) (x1 : Int32) (x3 : Int32) (x4 : Int32) (x5 : Int32) (s0 : Int32) (H : Heap) (locs : List Loc) (ls : Array Slot), p_X5_areTableaux_173 lp lq rp rq post k93 k106 se x1 x3 x4 x5 s0 → va_P D vwCl (wM k a mm nn we la si it be pa su wo le pp qq ro lo lp lq rp rq se no ne) H → va_D A (wM k a mm nn we la si it be pa su wo le pp qq ro lo lp lq rp rq se no ne) → va_S A s.heap H locs → lv_has ls 6 [(0, .ref (a 0)), (1, .int x1), (3, .int x3), (4, .int x4), (5, .int x5)] → W p l e ({ frames := 1, cells := 0, slots := 0, locals := 22 }) s m args below meth c H locs 0 0 (MQ below (va_Qi (fun (r : Int32) (u : (Nat → Int32)) => post r u) (fun u t => va_P D vwCl (wM k a mm nn we la si it be pa su wo le pp qq ro lo lp lq rp rq u no ne) t.heap) A) args s 0 0 A) (F0 m 173 ls [.int s0]) := by
  obtain ⟨hx, hb, hr, hts, hown, hlocks, hml⟩ := id C0
  intro se x1 x3 x4 x5 s0 H locs ls hf hP hD hS hl
  unfold p_X5_areTableaux_173 at hf
  refine lv_istore_n (lv' := [(2, .int s0), (0, .ref (a 0)), (1, .int x1), (3, .int x3), (4, .int x4), (5, .int x5)]) hx hb dX5_areTableaux_173 rfl hl (by decide) rfl (fun ls hl => ?_)
  refine lv_aload_n hx hb dX5_areTableaux_174 rfl (lv_at hl 1 rfl) ?_
  refine va_get (D := D) (ci := 5) (C := RX5) (T := TX5) (N := 22) hx hb hts in_X5_areTableaux_X5 hown hG.1 hP 0 rfl rfl 19 (by decide) (hts _ lk_X5_areTableaux_66) (fun _ h9 => h9) rfl dX5_areTableaux_175 ?_
  refine lv_aload_n hx hb dX5_areTableaux_178 rfl (lv_at hl 1 rfl) ?_
  refine va_get (D := D) (ci := 5) (C := RX5) (T := TX5) (N := 22) hx hb hts in_X5_areTableaux_X5 hown hG.1 hP 0 rfl rfl 16 (by decide) (hts _ lk_X5_areTableaux_57) (fun _ h9 => h9) rfl dX5_areTableaux_179 ?_
  refine lv_iload hx hb dX5_areTableaux_182 (lv_at hl 5 rfl) ?_
  obtain ⟨h_11, hf⟩ := hf
  refine va_iald hx hb hG.1 hP 14 0 rfl rfl h_11 dX5_areTableaux_184 ?_
  refine lv_iconst (v := 1) hx hb dX5_areTableaux_185 (by decide) ?_
  obtain ⟨h_12, hf⟩ := hf
  refine va_zast hx hb hG.1 hP hD hS 17 2 rfl rfl h_12 dX5_areTableaux_186 (fun H locs hP hD hS => ?_)
  have hP : va_P D vwCl (wM k a mm nn we la si it be pa su wo le pp qq ro lo lp lq rp rq (upd se ((lq x5.toNatClampNeg).toNatClampNeg) (vp_nar .boolean 1)) no ne) H := hP
  have hD : va_D A (wM k a mm nn we la si it be pa su wo le pp qq ro lo lp lq rp rq (upd se ((lq x5.toNatClampNeg).toNatClampNeg) (vp_nar .boolean 1)) no ne) := hD
  refine lv_iload_n hx hb dX5_areTableaux_187 rfl (lv_at hl 0 rfl) ?_
  refine lv_if_eq (tgt := 238) hx hb dX5_areTableaux_188 (by decide) (fun c_13 => ?_) (fun c_13 => ?_)
  · have hf := hf.1 c_13
    exact k_X5_areTableaux_238 C0 hG hk93 hk106 (upd se ((lq x5.toNatClampNeg).toNatClampNeg) (vp_nar .boolean 1)) x1 x3 x4 x5 _ _ _ hf hP hD hS (lv_sub hl [1, 2, 3, 4, 5] rfl)
  · have hf := hf.2 c_13
    refine lv_iload hx hb dX5_areTableaux_191 (lv_at hl 4 rfl) ?_
    refine lv_if_eq (tgt := 234) hx hb dX5_areTableaux_193 (by decide) (fun c_22 => ?_) (fun c_22 => ?_)
    · have hf := hf.1 c_22
      exact k_X5_areTableaux_234 C0 hG hk93 hk106 (upd se ((lq x5.toNatClampNeg).toNatClampNeg) (vp_nar .boolean 1)) x1 x3 x4 x5 _ _ _ hf hP hD hS (lv_sub hl [1, 2, 3, 4, 5] rfl)
    · have hf := hf.2 c_22
      refine lv_aload_n hx hb dX5_areTableaux_196 rfl (lv_at hl 1 rfl) ?_
      refine va_get (D := D) (ci := 5) (C := RX5) (T := TX5) (N := 22) hx hb hts in_X5_areTableaux_X5 hown hG.1 hP 0 rfl rfl 15 (by decide) (hts _ lk_X5_areTableaux_54) (fun _ h9 => h9) rfl dX5_areTableaux_197 ?_
      refine lv_iload hx hb dX5_areTableaux_200 (lv_at hl 5 rfl) ?_
      obtain ⟨h_23, hf⟩ := hf
      refine va_iald hx hb hG.1 hP 13 0 rfl rfl h_23 dX5_areTableaux_202 ?_
      refine lv_aload_n hx hb dX5_areTableaux_203 rfl (lv_at hl 1 rfl) ?_
      refine va_get (D := D) (ci := 5) (C := RX5) (T := TX5) (N := 22) hx hb hts in_X5_areTableaux_X5 hown hG.1 hP 0 rfl rfl 15 (by decide) (hts _ lk_X5_areTableaux_54) (fun _ h9 => h9) rfl dX5_areTableaux_204 ?_
      refine lv_iload hx hb dX5_areTableaux_207 (lv_at hl 5 rfl) ?_
      refine lv_iconst (v := 1) hx hb dX5_areTableaux_209 (by decide) ?_
      refine lv_isub hx hb dX5_areTableaux_210 ?_
      obtain ⟨h_24, hf⟩ := hf
      refine va_iald hx hb hG.1 hP 13 0 rfl rfl h_24 dX5_areTableaux_211 ?_
      refine lv_icmp_lt (tgt := 238) hx hb dX5_areTableaux_212 (by decide) (fun c_25 => ?_) (fun c_25 => ?_)
      · have hf := hf.1 c_25
        exact k_X5_areTableaux_238 C0 hG hk93 hk106 (upd se ((lq x5.toNatClampNeg).toNatClampNeg) (vp_nar .boolean 1)) x1 x3 x4 x5 _ _ _ hf hP hD hS (lv_sub hl [1, 2, 3, 4, 5] rfl)
      · have hf := hf.2 c_25
        refine lv_aload_n hx hb dX5_areTableaux_215 rfl (lv_at hl 1 rfl) ?_
        refine va_get (D := D) (ci := 5) (C := RX5) (T := TX5) (N := 22) hx hb hts in_X5_areTableaux_X5 hown hG.1 hP 0 rfl rfl 16 (by decide) (hts _ lk_X5_areTableaux_57) (fun _ h9 => h9) rfl dX5_areTableaux_216 ?_
        refine lv_iload hx hb dX5_areTableaux_219 (lv_at hl 5 rfl) ?_
        obtain ⟨h_26, hf⟩ := hf
        refine va_iald hx hb hG.1 hP 14 0 rfl rfl h_26 dX5_areTableaux_221 ?_
        refine lv_aload_n hx hb dX5_areTableaux_222 rfl (lv_at hl 1 rfl) ?_
        refine va_get (D := D) (ci := 5) (C := RX5) (T := TX5) (N := 22) hx hb hts in_X5_areTableaux_X5 hown hG.1 hP 0 rfl rfl 16 (by decide) (hts _ lk_X5_areTableaux_57) (fun _ h9 => h9) rfl dX5_areTableaux_223 ?_
        refine lv_iload hx hb dX5_areTableaux_226 (lv_at hl 5 rfl) ?_
        refine lv_iconst (v := 1) hx hb dX5_areTableaux_228 (by decide) ?_
        refine lv_isub hx hb dX5_areTableaux_229 ?_
        obtain ⟨h_27, hf⟩ := hf
        refine va_iald hx hb hG.1 hP 14 0 rfl rfl h_27 dX5_areTableaux_230 ?_
        refine lv_icmp_le (tgt := 238) hx hb dX5_areTableaux_231 (by decide) (fun c_28 => ?_) (fun c_28 => ?_)
        · have hf := hf.1 c_28
          exact k_X5_areTableaux_238 C0 hG hk93 hk106 (upd se ((lq x5.toNatClampNeg).toNatClampNeg) (vp_nar .boolean 1)) x1 x3 x4 x5 _ _ _ hf hP hD hS (lv_sub hl [1, 2, 3, 4, 5] rfl)
        · have hf := hf.2 c_28
          exact k_X5_areTableaux_234 C0 hG hk93 hk106 (upd se ((lq x5.toNatClampNeg).toNatClampNeg) (vp_nar .boolean 1)) x1 x3 x4 x5 _ _ _ hf hP hD hS (lv_sub hl [1, 2, 3, 4, 5] rfl)
set_option maxHeartbeats 4000000 in
set_option maxRecDepth 100000 in
theorem k_X5_areTableaux_172 {p : Program} {l : Launch} {e : Env} {s : State} {m : MethodId} {args : Array Value} {below : List Frame} {meth : Method} {c : Code} {A : Nat → Prop} {D : va_G} {k : Nat → ClassId} {a : Nat → Nat} {mm : Int32} {nn : Int32} {we : Nat → Int32} {la : Nat → Int32} {si : Nat → Int32} {it : Nat → Int32} {be : Nat → Int32} {pa : Nat → Int32} {su : Nat → Int64} {wo : Nat → Int32} {le : Int32} {pp : Nat → Int32} {qq : Nat → Int32} {ro : Nat → Int32} {lo : Nat → Int32} {lp : Nat → Int32} {lq : Nat → Int32} {rp : Nat → Int32} {rq : Nat → Int32} {no : Nat → Int64} {ne : Nat → Int64} (C0 : xM p s m args meth c cX5_areTableaux 6 RX5 (some .boolean) wsX5_areTableaux) (hG : xG D k s) {post : Int32 → (Nat → Int32) → Prop} {k93 : (Nat → Int32) → Int32 → Int32 → Int32 → Prop} (hk93 : ∀ (se : Nat → Int32) (x1 : Int32) (x2 : Int32) (x3 : Int32) (H : Heap) (locs : List Loc) (ls : Array Slot), k93 se x1 x2 x3 → va_P D vwCl (wM k a mm nn we la si it be pa su wo le pp qq ro lo lp lq rp rq se no ne) H → va_D A (wM k a mm nn we la si it be pa su wo le pp qq ro lo lp lq rp rq se no ne) → va_S A s.heap H locs → lv_has ls 6 [(0, .ref (a 0)), (1, .int x1), (2, .int x2), (3, .int x3)] → W p l e ({ frames := 1, cells := 0, slots := 0, locals := 22 }) s m args below meth c H locs 0 0 (MQ below (va_Qi (fun (r : Int32) (u : (Nat → Int32)) => post r u) (fun u t => va_P D vwCl (wM k a mm nn we la si it be pa su wo le pp qq ro lo lp lq rp rq u no ne) t.heap) A) args s 0 0 A) (F0 m 93 ls [])) {k106 : (Nat → Int32) → Int32 → Int32 → Int32 → Int32 → Prop} (hk106 : ∀ (se : Nat → Int32) (x1 : Int32) (x2 : Int32) (x3 : Int32) (x4 : Int32) (H : Heap) (locs : List Loc) (ls : Array Slot), k106 se x1 x2 x3 x4 → va_P D vwCl (wM k a mm nn we la si it be pa su wo le pp qq ro lo lp lq rp rq se no ne) H → va_D A (wM k a mm nn we la si it be pa su wo le pp qq ro lo lp lq rp rq se no ne) → va_S A s.heap H locs → lv_has ls 6 [(0, .ref (a 0)), (1, .int x1), (2, .int x2), (3, .int x3), (4, .int x4)] → W p l e ({ frames := 1, cells := 0, slots := 0, locals := 22 }) s m args below meth c H locs 0 0 (MQ below (va_Qi (fun (r : Int32) (u : (Nat → Int32)) => post r u) (fun u t => va_P D vwCl (wM k a mm nn we la si it be pa su wo le pp qq ro lo lp lq rp rq u no ne) t.heap) A) args s 0 0 A) (F0 m 106 ls [])) : ∀ (se : Nat → Int32) (x1 : Int32) (x3 : Int32) (x4 : Int32) (x5 : Int32) (H : Heap) (locs : List Loc) (ls : Array Slot), p_X5_areTableaux_172 lp lq rp rq post k93 k106 se x1 x3 x4 x5 → va_P D vwCl (wM k a mm nn we la si it be pa su wo le pp qq ro lo lp lq rp rq se no ne) H → va_D A (wM k a mm nn we la si it be pa su wo le pp qq ro lo lp lq rp rq se no ne) → va_S A s.heap H locs → lv_has ls 6 [(0, .ref (a 0)), (1, .int x1), (3, .int x3), (4, .int x4), (5, .int x5)] → W p l e ({ frames := 1, cells := 0, slots := 0, locals := 22 }) s m args below meth c H locs 0 0 (MQ below (va_Qi (fun (r : Int32) (u : (Nat → Int32)) => post r u) (fun u t => va_P D vwCl (wM k a mm nn we la si it be pa su wo le pp qq ro lo lp lq rp rq u no ne) t.heap) A) args s 0 0 A) (F0 m 172 ls []) := by
  obtain ⟨hx, hb, hr, hts, hown, hlocks, hml⟩ := id C0
  intro se x1 x3 x4 x5 H locs ls hf hP hD hS hl
  unfold p_X5_areTableaux_172 at hf
  refine lv_iconst (v := 0) hx hb dX5_areTableaux_172 (by decide) ?_
  exact k_X5_areTableaux_173 C0 hG hk93 hk106 se x1 x3 x4 x5 0 _ _ _ hf hP hD hS (lv_sub hl [0, 1, 2, 3, 4] rfl)
set_option maxHeartbeats 4000000 in
set_option maxRecDepth 100000 in
theorem k_X5_areTableaux_106 {p : Program} {l : Launch} {e : Env} {s : State} {m : MethodId} {args : Array Value} {below : List Frame} {meth : Method} {c : Code} {A : Nat → Prop} {D : va_G} {k : Nat → ClassId} {a : Nat → Nat} {mm : Int32} {nn : Int32} {we : Nat → Int32} {la : Nat → Int32} {si : Nat → Int32} {it : Nat → Int32} {be : Nat → Int32} {pa : Nat → Int32} {su : Nat → Int64} {wo : Nat → Int32} {le : Int32} {pp : Nat → Int32} {qq : Nat → Int32} {ro : Nat → Int32} {lo : Nat → Int32} {lp : Nat → Int32} {lq : Nat → Int32} {rp : Nat → Int32} {rq : Nat → Int32} {no : Nat → Int64} {ne : Nat → Int64} (C0 : xM p s m args meth c cX5_areTableaux 6 RX5 (some .boolean) wsX5_areTableaux) (hG : xG D k s) {post : Int32 → (Nat → Int32) → Prop} {k93 : (Nat → Int32) → Int32 → Int32 → Int32 → Prop} (hk93 : ∀ (se : Nat → Int32) (x1 : Int32) (x2 : Int32) (x3 : Int32) (H : Heap) (locs : List Loc) (ls : Array Slot), k93 se x1 x2 x3 → va_P D vwCl (wM k a mm nn we la si it be pa su wo le pp qq ro lo lp lq rp rq se no ne) H → va_D A (wM k a mm nn we la si it be pa su wo le pp qq ro lo lp lq rp rq se no ne) → va_S A s.heap H locs → lv_has ls 6 [(0, .ref (a 0)), (1, .int x1), (2, .int x2), (3, .int x3)] → W p l e ({ frames := 1, cells := 0, slots := 0, locals := 22 }) s m args below meth c H locs 0 0 (MQ below (va_Qi (fun (r : Int32) (u : (Nat → Int32)) => post r u) (fun u t => va_P D vwCl (wM k a mm nn we la si it be pa su wo le pp qq ro lo lp lq rp rq u no ne) t.heap) A) args s 0 0 A) (F0 m 93 ls [])) : ∀ (n : Nat) (se : Nat → Int32) (x1 : Int32) (x2 : Int32) (x3 : Int32) (x4 : Int32) (H : Heap) (locs : List Loc) (ls : Array Slot), p_X5_areTableaux_106 lp lq rp rq post k93 n se x1 x2 x3 x4 → va_P D vwCl (wM k a mm nn we la si it be pa su wo le pp qq ro lo lp lq rp rq se no ne) H → va_D A (wM k a mm nn we la si it be pa su wo le pp qq ro lo lp lq rp rq se no ne) → va_S A s.heap H locs → lv_has ls 6 [(0, .ref (a 0)), (1, .int x1), (2, .int x2), (3, .int x3), (4, .int x4)] → W p l e ({ frames := 1, cells := 0, slots := 0, locals := 22 }) s m args below meth c H locs 0 0 (MQ below (va_Qi (fun (r : Int32) (u : (Nat → Int32)) => post r u) (fun u t => va_P D vwCl (wM k a mm nn we la si it be pa su wo le pp qq ro lo lp lq rp rq u no ne) t.heap) A) args s 0 0 A) (F0 m 106 ls []) := by
  obtain ⟨hx, hb, hr, hts, hown, hlocks, hml⟩ := id C0
  intro n
  induction n with
  | zero =>
    intro se x1 x2 x3 x4 H locs ls hf
    exact False.elim hf
  | succ n ih =>
    intro se x1 x2 x3 x4 H locs ls hf hP hD hS hl
    unfold p_X5_areTableaux_106 at hf
    refine lv_iload hx hb dX5_areTableaux_106 (lv_at hl 4 rfl) ?_
    refine lv_aload_n hx hb dX5_areTableaux_108 rfl (lv_at hl 0 rfl) ?_
    refine va_get (D := D) (ci := 5) (C := RX5) (T := TX5) (N := 22) hx hb hts in_X5_areTableaux_X5 hown hG.1 hP 0 rfl rfl 17 (by decide) (hts _ lk_X5_areTableaux_60) (fun _ h9 => h9) rfl dX5_areTableaux_109 ?_
    refine lv_iload_n hx hb dX5_areTableaux_112 rfl (lv_at hl 3 rfl) ?_
    obtain ⟨h_8, hf⟩ := hf
    refine va_iald hx hb hG.1 hP 15 0 rfl rfl h_8 dX5_areTableaux_113 ?_
    refine lv_icmp_ge (tgt := 300) hx hb dX5_areTableaux_114 (by decide) (fun c_9 => ?_) (fun c_9 => ?_)
    · have hf := hf.1 c_9
      refine lv_iinc (v := x3 + 1) (lv' := [(3, .int (x3 + 1)), (0, .ref (a 0)), (1, .int x1), (2, .int x2), (4, .int x4)]) hx hb dX5_areTableaux_300 hl (k := 3) rfl rfl (by decide) rfl (fun ls hl => ?_)
      refine lv_goto (tgt := 93) hx hb dX5_areTableaux_303 (by decide) ?_
      exact hk93 se x1 x2 (x3 + 1) _ _ _ hf hP hD hS (lv_sub hl [1, 2, 3, 0] rfl)
    · have hf := hf.2 c_9
      refine lv_bipush (v := 40) hx hb dX5_areTableaux_117 (by decide) ?_
      refine lv_iload_n hx hb dX5_areTableaux_119 rfl (lv_at hl 3 rfl) ?_
      refine lv_imul hx hb dX5_areTableaux_120 ?_
      refine lv_iload hx hb dX5_areTableaux_121 (lv_at hl 4 rfl) ?_
      refine lv_iadd hx hb dX5_areTableaux_123 ?_
      refine lv_istore (lv' := [(5, .int ((40 * x3) + x4)), (0, .ref (a 0)), (1, .int x1), (2, .int x2), (3, .int x3), (4, .int x4)]) hx hb dX5_areTableaux_124 hl (by decide) rfl (fun ls hl => ?_)
      refine lv_iload_n hx hb dX5_areTableaux_126 rfl (lv_at hl 3 rfl) ?_
      refine lv_if_eq (tgt := 172) hx hb dX5_areTableaux_127 (by decide) (fun c_10 => ?_) (fun c_10 => ?_)
      · have hf := hf.1 c_10
        exact k_X5_areTableaux_172 C0 hG hk93 ih se x1 x3 x4 ((40 * x3) + x4) _ _ _ hf hP hD hS (lv_sub hl [1, 2, 4, 5, 0] rfl)
      · have hf := hf.2 c_10
        refine lv_aload_n hx hb dX5_areTableaux_130 rfl (lv_at hl 1 rfl) ?_
        refine va_get (D := D) (ci := 5) (C := RX5) (T := TX5) (N := 22) hx hb hts in_X5_areTableaux_X5 hown hG.1 hP 0 rfl rfl 15 (by decide) (hts _ lk_X5_areTableaux_54) (fun _ h9 => h9) rfl dX5_areTableaux_131 ?_
        refine lv_iload hx hb dX5_areTableaux_134 (lv_at hl 0 rfl) ?_
        obtain ⟨h_29, hf⟩ := hf
        refine va_iald hx hb hG.1 hP 13 0 rfl rfl h_29 dX5_areTableaux_136 ?_
        refine lv_bipush (v := 9) hx hb dX5_areTableaux_137 (by decide) ?_
        refine lv_icmp_gt (tgt := 172) hx hb dX5_areTableaux_139 (by decide) (fun c_30 => ?_) (fun c_30 => ?_)
        · have hf := hf.1 c_30
          exact k_X5_areTableaux_172 C0 hG hk93 ih se x1 x3 x4 ((40 * x3) + x4) _ _ _ hf hP hD hS (lv_sub hl [1, 2, 4, 5, 0] rfl)
        · have hf := hf.2 c_30
          refine lv_aload_n hx hb dX5_areTableaux_142 rfl (lv_at hl 1 rfl) ?_
          refine va_get (D := D) (ci := 5) (C := RX5) (T := TX5) (N := 22) hx hb hts in_X5_areTableaux_X5 hown hG.1 hP 0 rfl rfl 16 (by decide) (hts _ lk_X5_areTableaux_57) (fun _ h9 => h9) rfl dX5_areTableaux_143 ?_
          refine lv_iload hx hb dX5_areTableaux_146 (lv_at hl 0 rfl) ?_
          obtain ⟨h_31, hf⟩ := hf
          refine va_iald hx hb hG.1 hP 14 0 rfl rfl h_31 dX5_areTableaux_148 ?_
          refine lv_iload_n hx hb dX5_areTableaux_149 rfl (lv_at hl 2 rfl) ?_
          refine lv_icmp_gt (tgt := 172) hx hb dX5_areTableaux_150 (by decide) (fun c_32 => ?_) (fun c_32 => ?_)
          · have hf := hf.1 c_32
            exact k_X5_areTableaux_172 C0 hG hk93 ih se x1 x3 x4 ((40 * x3) + x4) _ _ _ hf hP hD hS (lv_sub hl [1, 2, 4, 5, 0] rfl)
          · have hf := hf.2 c_32
            refine lv_aload_n hx hb dX5_areTableaux_153 rfl (lv_at hl 1 rfl) ?_
            refine va_get (D := D) (ci := 5) (C := RX5) (T := TX5) (N := 22) hx hb hts in_X5_areTableaux_X5 hown hG.1 hP 0 rfl rfl 19 (by decide) (hts _ lk_X5_areTableaux_66) (fun _ h9 => h9) rfl dX5_areTableaux_154 ?_
            refine lv_aload_n hx hb dX5_areTableaux_157 rfl (lv_at hl 1 rfl) ?_
            refine va_get (D := D) (ci := 5) (C := RX5) (T := TX5) (N := 22) hx hb hts in_X5_areTableaux_X5 hown hG.1 hP 0 rfl rfl 16 (by decide) (hts _ lk_X5_areTableaux_57) (fun _ h9 => h9) rfl dX5_areTableaux_158 ?_
            refine lv_iload hx hb dX5_areTableaux_161 (lv_at hl 0 rfl) ?_
            obtain ⟨h_33, hf⟩ := hf
            refine va_iald hx hb hG.1 hP 14 0 rfl rfl h_33 dX5_areTableaux_163 ?_
            obtain ⟨h_34, hf⟩ := hf
            refine va_zald hx hb hG.1 hP 17 2 rfl rfl h_34 dX5_areTableaux_164 ?_
            refine lv_if_ne (tgt := 172) hx hb dX5_areTableaux_165 (by decide) (fun c_35 => ?_) (fun c_35 => ?_)
            · have hf := hf.2 c_35
              exact k_X5_areTableaux_172 C0 hG hk93 ih se x1 x3 x4 ((40 * x3) + x4) _ _ _ hf hP hD hS (lv_sub hl [1, 2, 4, 5, 0] rfl)
            · have hf := hf.1 c_35
              refine lv_iconst (v := 1) hx hb dX5_areTableaux_168 (by decide) ?_
              refine lv_goto (tgt := 173) hx hb dX5_areTableaux_169 (by decide) ?_
              exact k_X5_areTableaux_173 C0 hG hk93 ih se x1 x3 x4 ((40 * x3) + x4) 1 _ _ _ hf hP hD hS (lv_sub hl [1, 2, 4, 5, 0] rfl)
set_option maxHeartbeats 4000000 in
set_option maxRecDepth 100000 in
theorem k_X5_areTableaux_93 {p : Program} {l : Launch} {e : Env} {s : State} {m : MethodId} {args : Array Value} {below : List Frame} {meth : Method} {c : Code} {A : Nat → Prop} {D : va_G} {k : Nat → ClassId} {a : Nat → Nat} {mm : Int32} {nn : Int32} {we : Nat → Int32} {la : Nat → Int32} {si : Nat → Int32} {it : Nat → Int32} {be : Nat → Int32} {pa : Nat → Int32} {su : Nat → Int64} {wo : Nat → Int32} {le : Int32} {pp : Nat → Int32} {qq : Nat → Int32} {ro : Nat → Int32} {lo : Nat → Int32} {lp : Nat → Int32} {lq : Nat → Int32} {rp : Nat → Int32} {rq : Nat → Int32} {no : Nat → Int64} {ne : Nat → Int64} (C0 : xM p s m args meth c cX5_areTableaux 6 RX5 (some .boolean) wsX5_areTableaux) (hG : xG D k s) {post : Int32 → (Nat → Int32) → Prop} : ∀ (n : Nat) (se : Nat → Int32) (x1 : Int32) (x2 : Int32) (x3 : Int32) (H : Heap) (locs : List Loc) (ls : Array Slot), p_X5_areTableaux_93 lp lq rp rq post n se x1 x2 x3 → va_P D vwCl (wM k a mm nn we la si it be pa su wo le pp qq ro lo lp lq rp rq se no ne) H → va_D A (wM k a mm nn we la si it be pa su wo le pp qq ro lo lp lq rp rq se no ne) → va_S A s.heap H locs → lv_has ls 6 [(0, .ref (a 0)), (1, .int x1), (2, .int x2), (3, .int x3)] → W p l e ({ frames := 1, cells := 0, slots := 0, locals := 22 }) s m args below meth c H locs 0 0 (MQ below (va_Qi (fun (r : Int32) (u : (Nat → Int32)) => post r u) (fun u t => va_P D vwCl (wM k a mm nn we la si it be pa su wo le pp qq ro lo lp lq rp rq u no ne) t.heap) A) args s 0 0 A) (F0 m 93 ls []) := by
  obtain ⟨hx, hb, hr, hts, hown, hlocks, hml⟩ := id C0
  intro n
  induction n with
  | zero =>
    intro se x1 x2 x3 H locs ls hf
    exact False.elim hf
  | succ n ih =>
    intro se x1 x2 x3 H locs ls hf hP hD hS hl
    unfold p_X5_areTableaux_93 at hf
    refine lv_iload_n hx hb dX5_areTableaux_93 rfl (lv_at hl 3 rfl) ?_
    refine lv_bipush (v := 9) hx hb dX5_areTableaux_94 (by decide) ?_
    refine lv_icmp_ge (tgt := 306) hx hb dX5_areTableaux_96 (by decide) (fun c_4 => ?_) (fun c_4 => ?_)
    · have hf := hf.1 c_4
      refine lv_iload_n hx hb dX5_areTableaux_306 rfl (lv_at hl 2 rfl) ?_
      obtain ⟨h_5, hf⟩ := hf
      exact W.zret (v := x2) hx hb hr h_5 (fun t ht hW => ⟨⟨x2, se, rfl, hf, xHp ht hP⟩, hS.F ht⟩) hS.2.2 dX5_areTableaux_307 hlocks
    · have hf := hf.2 c_4
      refine lv_iload_n hx hb dX5_areTableaux_99 rfl (lv_at hl 2 rfl) ?_
      refine lv_if_eq (tgt := 306) hx hb dX5_areTableaux_100 (by decide) (fun c_6 => ?_) (fun c_6 => ?_)
      · have hf := hf.1 c_6
        refine lv_iload_n hx hb dX5_areTableaux_306 rfl (lv_at hl 2 rfl) ?_
        obtain ⟨h_7, hf⟩ := hf
        exact W.zret (v := x2) hx hb hr h_7 (fun t ht hW => ⟨⟨x2, se, rfl, hf, xHp ht hP⟩, hS.F ht⟩) hS.2.2 dX5_areTableaux_307 hlocks
      · have hf := hf.2 c_6
        refine lv_iconst (v := 0) hx hb dX5_areTableaux_103 (by decide) ?_
        refine lv_istore (lv' := [(4, .int 0), (0, .ref (a 0)), (1, .int x1), (2, .int x2), (3, .int x3)]) hx hb dX5_areTableaux_104 hl (by decide) rfl (fun ls hl => ?_)
        obtain ⟨n_36, hf⟩ := hf
        exact k_X5_areTableaux_106 C0 hG ih n_36 se x1 x2 x3 0 _ _ _ hf hP hD hS (lv_sub hl [1, 2, 3, 4, 0] rfl)
set_option maxHeartbeats 4000000 in
set_option maxRecDepth 100000 in
theorem k_X5_areTableaux_84 {p : Program} {l : Launch} {e : Env} {s : State} {m : MethodId} {args : Array Value} {below : List Frame} {meth : Method} {c : Code} {A : Nat → Prop} {D : va_G} {k : Nat → ClassId} {a : Nat → Nat} {mm : Int32} {nn : Int32} {we : Nat → Int32} {la : Nat → Int32} {si : Nat → Int32} {it : Nat → Int32} {be : Nat → Int32} {pa : Nat → Int32} {su : Nat → Int64} {wo : Nat → Int32} {le : Int32} {pp : Nat → Int32} {qq : Nat → Int32} {ro : Nat → Int32} {lo : Nat → Int32} {lp : Nat → Int32} {lq : Nat → Int32} {rp : Nat → Int32} {rq : Nat → Int32} {no : Nat → Int64} {ne : Nat → Int64} (C0 : xM p s m args meth c cX5_areTableaux 6 RX5 (some .boolean) wsX5_areTableaux) (hG : xG D k s) {post : Int32 → (Nat → Int32) → Prop} {k33 : (Nat → Int32) → Int32 → Int32 → Int32 → Prop} (hk33 : ∀ (se : Nat → Int32) (x1 : Int32) (x2 : Int32) (x3 : Int32) (H : Heap) (locs : List Loc) (ls : Array Slot), k33 se x1 x2 x3 → va_P D vwCl (wM k a mm nn we la si it be pa su wo le pp qq ro lo lp lq rp rq se no ne) H → va_D A (wM k a mm nn we la si it be pa su wo le pp qq ro lo lp lq rp rq se no ne) → va_S A s.heap H locs → lv_has ls 6 [(0, .ref (a 0)), (1, .int x1), (2, .int x2), (3, .int x3)] → W p l e ({ frames := 1, cells := 0, slots := 0, locals := 22 }) s m args below meth c H locs 0 0 (MQ below (va_Qi (fun (r : Int32) (u : (Nat → Int32)) => post r u) (fun u t => va_P D vwCl (wM k a mm nn we la si it be pa su wo le pp qq ro lo lp lq rp rq u no ne) t.heap) A) args s 0 0 A) (F0 m 33 ls [])) : ∀ (se : Nat → Int32) (x1 : Int32) (x3 : Int32) (s0 : Int32) (H : Heap) (locs : List Loc) (ls : Array Slot), p_X5_areTableaux_84 lp lq rp rq post k33 se x1 x3 s0 → va_P D vwCl (wM k a mm nn we la si it be pa su wo le pp qq ro lo lp lq rp rq se no ne) H → va_D A (wM k a mm nn we la si it be pa su wo le pp qq ro lo lp lq rp rq se no ne) → va_S A s.heap H locs → lv_has ls 6 [(0, .ref (a 0)), (1, .int x1), (3, .int x3)] → W p l e ({ frames := 1, cells := 0, slots := 0, locals := 22 }) s m args below meth c H locs 0 0 (MQ below (va_Qi (fun (r : Int32) (u : (Nat → Int32)) => post r u) (fun u t => va_P D vwCl (wM k a mm nn we la si it be pa su wo le pp qq ro lo lp lq rp rq u no ne) t.heap) A) args s 0 0 A) (F0 m 84 ls [.int s0]) := by
  obtain ⟨hx, hb, hr, hts, hown, hlocks, hml⟩ := id C0
  intro se x1 x3 s0 H locs ls hf hP hD hS hl
  unfold p_X5_areTableaux_84 at hf
  refine lv_istore_n (lv' := [(2, .int s0), (0, .ref (a 0)), (1, .int x1), (3, .int x3)]) hx hb dX5_areTableaux_84 rfl hl (by decide) rfl (fun ls hl => ?_)
  refine lv_iinc (v := x3 + 1) (lv' := [(3, .int (x3 + 1)), (2, .int s0), (0, .ref (a 0)), (1, .int x1)]) hx hb dX5_areTableaux_85 hl (k := 3) rfl rfl (by decide) rfl (fun ls hl => ?_)
  refine lv_goto (tgt := 33) hx hb dX5_areTableaux_88 (by decide) ?_
  exact hk33 se x1 s0 (x3 + 1) _ _ _ hf hP hD hS (lv_sub hl [2, 3, 1, 0] rfl)
set_option maxHeartbeats 4000000 in
set_option maxRecDepth 100000 in
theorem k_X5_areTableaux_83 {p : Program} {l : Launch} {e : Env} {s : State} {m : MethodId} {args : Array Value} {below : List Frame} {meth : Method} {c : Code} {A : Nat → Prop} {D : va_G} {k : Nat → ClassId} {a : Nat → Nat} {mm : Int32} {nn : Int32} {we : Nat → Int32} {la : Nat → Int32} {si : Nat → Int32} {it : Nat → Int32} {be : Nat → Int32} {pa : Nat → Int32} {su : Nat → Int64} {wo : Nat → Int32} {le : Int32} {pp : Nat → Int32} {qq : Nat → Int32} {ro : Nat → Int32} {lo : Nat → Int32} {lp : Nat → Int32} {lq : Nat → Int32} {rp : Nat → Int32} {rq : Nat → Int32} {no : Nat → Int64} {ne : Nat → Int64} (C0 : xM p s m args meth c cX5_areTableaux 6 RX5 (some .boolean) wsX5_areTableaux) (hG : xG D k s) {post : Int32 → (Nat → Int32) → Prop} {k33 : (Nat → Int32) → Int32 → Int32 → Int32 → Prop} (hk33 : ∀ (se : Nat → Int32) (x1 : Int32) (x2 : Int32) (x3 : Int32) (H : Heap) (locs : List Loc) (ls : Array Slot), k33 se x1 x2 x3 → va_P D vwCl (wM k a mm nn we la si it be pa su wo le pp qq ro lo lp lq rp rq se no ne) H → va_D A (wM k a mm nn we la si it be pa su wo le pp qq ro lo lp lq rp rq se no ne) → va_S A s.heap H locs → lv_has ls 6 [(0, .ref (a 0)), (1, .int x1), (2, .int x2), (3, .int x3)] → W p l e ({ frames := 1, cells := 0, slots := 0, locals := 22 }) s m args below meth c H locs 0 0 (MQ below (va_Qi (fun (r : Int32) (u : (Nat → Int32)) => post r u) (fun u t => va_P D vwCl (wM k a mm nn we la si it be pa su wo le pp qq ro lo lp lq rp rq u no ne) t.heap) A) args s 0 0 A) (F0 m 33 ls [])) : ∀ (se : Nat → Int32) (x1 : Int32) (x3 : Int32) (H : Heap) (locs : List Loc) (ls : Array Slot), p_X5_areTableaux_83 lp lq rp rq post k33 se x1 x3 → va_P D vwCl (wM k a mm nn we la si it be pa su wo le pp qq ro lo lp lq rp rq se no ne) H → va_D A (wM k a mm nn we la si it be pa su wo le pp qq ro lo lp lq rp rq se no ne) → va_S A s.heap H locs → lv_has ls 6 [(0, .ref (a 0)), (1, .int x1), (3, .int x3)] → W p l e ({ frames := 1, cells := 0, slots := 0, locals := 22 }) s m args below meth c H locs 0 0 (MQ below (va_Qi (fun (r : Int32) (u : (Nat → Int32)) => post r u) (fun u t => va_P D vwCl (wM k a mm nn we la si it be pa su wo le pp qq ro lo lp lq rp rq u no ne) t.heap) A) args s 0 0 A) (F0 m 83 ls []) := by
  obtain ⟨hx, hb, hr, hts, hown, hlocks, hml⟩ := id C0
  intro se x1 x3 H locs ls hf hP hD hS hl
  unfold p_X5_areTableaux_83 at hf
  refine lv_iconst (v := 0) hx hb dX5_areTableaux_83 (by decide) ?_
  exact k_X5_areTableaux_84 C0 hG hk33 se x1 x3 0 _ _ _ hf hP hD hS (lv_sub hl [0, 1, 2] rfl)
set_option maxHeartbeats 4000000 in
set_option maxRecDepth 100000 in
theorem k_X5_areTableaux_79 {p : Program} {l : Launch} {e : Env} {s : State} {m : MethodId} {args : Array Value} {below : List Frame} {meth : Method} {c : Code} {A : Nat → Prop} {D : va_G} {k : Nat → ClassId} {a : Nat → Nat} {mm : Int32} {nn : Int32} {we : Nat → Int32} {la : Nat → Int32} {si : Nat → Int32} {it : Nat → Int32} {be : Nat → Int32} {pa : Nat → Int32} {su : Nat → Int64} {wo : Nat → Int32} {le : Int32} {pp : Nat → Int32} {qq : Nat → Int32} {ro : Nat → Int32} {lo : Nat → Int32} {lp : Nat → Int32} {lq : Nat → Int32} {rp : Nat → Int32} {rq : Nat → Int32} {no : Nat → Int64} {ne : Nat → Int64} (C0 : xM p s m args meth c cX5_areTableaux 6 RX5 (some .boolean) wsX5_areTableaux) (hG : xG D k s) {post : Int32 → (Nat → Int32) → Prop} {k33 : (Nat → Int32) → Int32 → Int32 → Int32 → Prop} (hk33 : ∀ (se : Nat → Int32) (x1 : Int32) (x2 : Int32) (x3 : Int32) (H : Heap) (locs : List Loc) (ls : Array Slot), k33 se x1 x2 x3 → va_P D vwCl (wM k a mm nn we la si it be pa su wo le pp qq ro lo lp lq rp rq se no ne) H → va_D A (wM k a mm nn we la si it be pa su wo le pp qq ro lo lp lq rp rq se no ne) → va_S A s.heap H locs → lv_has ls 6 [(0, .ref (a 0)), (1, .int x1), (2, .int x2), (3, .int x3)] → W p l e ({ frames := 1, cells := 0, slots := 0, locals := 22 }) s m args below meth c H locs 0 0 (MQ below (va_Qi (fun (r : Int32) (u : (Nat → Int32)) => post r u) (fun u t => va_P D vwCl (wM k a mm nn we la si it be pa su wo le pp qq ro lo lp lq rp rq u no ne) t.heap) A) args s 0 0 A) (F0 m 33 ls [])) : ∀ (se : Nat → Int32) (x1 : Int32) (x3 : Int32) (H : Heap) (locs : List Loc) (ls : Array Slot), p_X5_areTableaux_79 lp lq rp rq post k33 se x1 x3 → va_P D vwCl (wM k a mm nn we la si it be pa su wo le pp qq ro lo lp lq rp rq se no ne) H → va_D A (wM k a mm nn we la si it be pa su wo le pp qq ro lo lp lq rp rq se no ne) → va_S A s.heap H locs → lv_has ls 6 [(0, .ref (a 0)), (1, .int x1), (3, .int x3)] → W p l e ({ frames := 1, cells := 0, slots := 0, locals := 22 }) s m args below meth c H locs 0 0 (MQ below (va_Qi (fun (r : Int32) (u : (Nat → Int32)) => post r u) (fun u t => va_P D vwCl (wM k a mm nn we la si it be pa su wo le pp qq ro lo lp lq rp rq u no ne) t.heap) A) args s 0 0 A) (F0 m 79 ls []) := by
  obtain ⟨hx, hb, hr, hts, hown, hlocks, hml⟩ := id C0
  intro se x1 x3 H locs ls hf hP hD hS hl
  unfold p_X5_areTableaux_79 at hf
  refine lv_iconst (v := 1) hx hb dX5_areTableaux_79 (by decide) ?_
  refine lv_goto (tgt := 84) hx hb dX5_areTableaux_80 (by decide) ?_
  exact k_X5_areTableaux_84 C0 hG hk33 se x1 x3 1 _ _ _ hf hP hD hS (lv_sub hl [0, 1, 2] rfl)
set_option maxHeartbeats 4000000 in
set_option maxRecDepth 100000 in
theorem k_X5_areTableaux_33 {p : Program} {l : Launch} {e : Env} {s : State} {m : MethodId} {args : Array Value} {below : List Frame} {meth : Method} {c : Code} {A : Nat → Prop} {D : va_G} {k : Nat → ClassId} {a : Nat → Nat} {mm : Int32} {nn : Int32} {we : Nat → Int32} {la : Nat → Int32} {si : Nat → Int32} {it : Nat → Int32} {be : Nat → Int32} {pa : Nat → Int32} {su : Nat → Int64} {wo : Nat → Int32} {le : Int32} {pp : Nat → Int32} {qq : Nat → Int32} {ro : Nat → Int32} {lo : Nat → Int32} {lp : Nat → Int32} {lq : Nat → Int32} {rp : Nat → Int32} {rq : Nat → Int32} {no : Nat → Int64} {ne : Nat → Int64} (C0 : xM p s m args meth c cX5_areTableaux 6 RX5 (some .boolean) wsX5_areTableaux) (hG : xG D k s) {post : Int32 → (Nat → Int32) → Prop} : ∀ (n : Nat) (se : Nat → Int32) (x1 : Int32) (x2 : Int32) (x3 : Int32) (H : Heap) (locs : List Loc) (ls : Array Slot), p_X5_areTableaux_33 lp lq rp rq post n se x1 x2 x3 → va_P D vwCl (wM k a mm nn we la si it be pa su wo le pp qq ro lo lp lq rp rq se no ne) H → va_D A (wM k a mm nn we la si it be pa su wo le pp qq ro lo lp lq rp rq se no ne) → va_S A s.heap H locs → lv_has ls 6 [(0, .ref (a 0)), (1, .int x1), (2, .int x2), (3, .int x3)] → W p l e ({ frames := 1, cells := 0, slots := 0, locals := 22 }) s m args below meth c H locs 0 0 (MQ below (va_Qi (fun (r : Int32) (u : (Nat → Int32)) => post r u) (fun u t => va_P D vwCl (wM k a mm nn we la si it be pa su wo le pp qq ro lo lp lq rp rq u no ne) t.heap) A) args s 0 0 A) (F0 m 33 ls []) := by
  obtain ⟨hx, hb, hr, hts, hown, hlocks, hml⟩ := id C0
  intro n
  induction n with
  | zero =>
    intro se x1 x2 x3 H locs ls hf
    exact False.elim hf
  | succ n ih =>
    intro se x1 x2 x3 H locs ls hf hP hD hS hl
    unfold p_X5_areTableaux_33 at hf
    refine lv_iload_n hx hb dX5_areTableaux_33 rfl (lv_at hl 3 rfl) ?_
    refine lv_bipush (v := 9) hx hb dX5_areTableaux_34 (by decide) ?_
    refine lv_icmp_ge (tgt := 91) hx hb dX5_areTableaux_36 (by decide) (fun c_3 => ?_) (fun c_3 => ?_)
    · have hf := hf.1 c_3
      refine lv_iconst (v := 0) hx hb dX5_areTableaux_91 (by decide) ?_
      refine lv_istore_n (lv' := [(3, .int 0), (0, .ref (a 0)), (1, .int x1), (2, .int x2)]) hx hb dX5_areTableaux_92 rfl hl (by decide) rfl (fun ls hl => ?_)
      obtain ⟨n_37, hf⟩ := hf
      exact k_X5_areTableaux_93 C0 hG n_37 se x1 x2 0 _ _ _ hf hP hD hS (lv_sub hl [1, 2, 3, 0] rfl)
    · have hf := hf.2 c_3
      refine lv_iload_n hx hb dX5_areTableaux_39 rfl (lv_at hl 2 rfl) ?_
      refine lv_if_eq (tgt := 83) hx hb dX5_areTableaux_40 (by decide) (fun c_38 => ?_) (fun c_38 => ?_)
      · have hf := hf.1 c_38
        exact k_X5_areTableaux_83 C0 hG ih se x1 x3 _ _ _ hf hP hD hS (lv_sub hl [0, 1, 3] rfl)
      · have hf := hf.2 c_38
        refine lv_aload_n hx hb dX5_areTableaux_43 rfl (lv_at hl 0 rfl) ?_
        refine va_get (D := D) (ci := 5) (C := RX5) (T := TX5) (N := 22) hx hb hts in_X5_areTableaux_X5 hown hG.1 hP 0 rfl rfl 17 (by decide) (hts _ lk_X5_areTableaux_60) (fun _ h9 => h9) rfl dX5_areTableaux_44 ?_
        refine lv_iload_n hx hb dX5_areTableaux_47 rfl (lv_at hl 3 rfl) ?_
        obtain ⟨h_39, hf⟩ := hf
        refine va_iald hx hb hG.1 hP 15 0 rfl rfl h_39 dX5_areTableaux_48 ?_
        refine lv_aload_n hx hb dX5_areTableaux_49 rfl (lv_at hl 0 rfl) ?_
        refine va_get (D := D) (ci := 5) (C := RX5) (T := TX5) (N := 22) hx hb hts in_X5_areTableaux_X5 hown hG.1 hP 0 rfl rfl 18 (by decide) (hts _ lk_X5_areTableaux_63) (fun _ h9 => h9) rfl dX5_areTableaux_50 ?_
        refine lv_iload_n hx hb dX5_areTableaux_53 rfl (lv_at hl 3 rfl) ?_
        obtain ⟨h_40, hf⟩ := hf
        refine va_iald hx hb hG.1 hP 16 0 rfl rfl h_40 dX5_areTableaux_54 ?_
        refine lv_icmp_ne (tgt := 83) hx hb dX5_areTableaux_55 (by decide) (fun c_41 => ?_) (fun c_41 => ?_)
        · have hf := hf.2 c_41
          exact k_X5_areTableaux_83 C0 hG ih se x1 x3 _ _ _ hf hP hD hS (lv_sub hl [0, 1, 3] rfl)
        · have hf := hf.1 c_41
          refine lv_iload_n hx hb dX5_areTableaux_58 rfl (lv_at hl 3 rfl) ?_
          refine lv_if_eq (tgt := 79) hx hb dX5_areTableaux_59 (by decide) (fun c_42 => ?_) (fun c_42 => ?_)
          · have hf := hf.1 c_42
            exact k_X5_areTableaux_79 C0 hG ih se x1 x3 _ _ _ hf hP hD hS (lv_sub hl [0, 1, 3] rfl)
          · have hf := hf.2 c_42
            refine lv_aload_n hx hb dX5_areTableaux_62 rfl (lv_at hl 0 rfl) ?_
            refine va_get (D := D) (ci := 5) (C := RX5) (T := TX5) (N := 22) hx hb hts in_X5_areTableaux_X5 hown hG.1 hP 0 rfl rfl 17 (by decide) (hts _ lk_X5_areTableaux_60) (fun _ h9 => h9) rfl dX5_areTableaux_63 ?_
            refine lv_iload_n hx hb dX5_areTableaux_66 rfl (lv_at hl 3 rfl) ?_
            obtain ⟨h_43, hf⟩ := hf
            refine va_iald hx hb hG.1 hP 15 0 rfl rfl h_43 dX5_areTableaux_67 ?_
            refine lv_aload_n hx hb dX5_areTableaux_68 rfl (lv_at hl 0 rfl) ?_
            refine va_get (D := D) (ci := 5) (C := RX5) (T := TX5) (N := 22) hx hb hts in_X5_areTableaux_X5 hown hG.1 hP 0 rfl rfl 17 (by decide) (hts _ lk_X5_areTableaux_60) (fun _ h9 => h9) rfl dX5_areTableaux_69 ?_
            refine lv_iload_n hx hb dX5_areTableaux_72 rfl (lv_at hl 3 rfl) ?_
            refine lv_iconst (v := 1) hx hb dX5_areTableaux_73 (by decide) ?_
            refine lv_isub hx hb dX5_areTableaux_74 ?_
            obtain ⟨h_44, hf⟩ := hf
            refine va_iald hx hb hG.1 hP 15 0 rfl rfl h_44 dX5_areTableaux_75 ?_
            refine lv_icmp_gt (tgt := 83) hx hb dX5_areTableaux_76 (by decide) (fun c_45 => ?_) (fun c_45 => ?_)
            · have hf := hf.1 c_45
              exact k_X5_areTableaux_83 C0 hG ih se x1 x3 _ _ _ hf hP hD hS (lv_sub hl [0, 1, 3] rfl)
            · have hf := hf.2 c_45
              exact k_X5_areTableaux_79 C0 hG ih se x1 x3 _ _ _ hf hP hD hS (lv_sub hl [0, 1, 3] rfl)
set_option maxHeartbeats 4000000 in
set_option maxRecDepth 100000 in
theorem k_X5_areTableaux_12 {p : Program} {l : Launch} {e : Env} {s : State} {m : MethodId} {args : Array Value} {below : List Frame} {meth : Method} {c : Code} {A : Nat → Prop} {D : va_G} {k : Nat → ClassId} {a : Nat → Nat} {mm : Int32} {nn : Int32} {we : Nat → Int32} {la : Nat → Int32} {si : Nat → Int32} {it : Nat → Int32} {be : Nat → Int32} {pa : Nat → Int32} {su : Nat → Int64} {wo : Nat → Int32} {le : Int32} {pp : Nat → Int32} {qq : Nat → Int32} {ro : Nat → Int32} {lo : Nat → Int32} {lp : Nat → Int32} {lq : Nat → Int32} {rp : Nat → Int32} {rq : Nat → Int32} {no : Nat → Int64} {ne : Nat → Int64} (C0 : xM p s m args meth c cX5_areTableaux 6 RX5 (some .boolean) wsX5_areTableaux) (hG : xG D k s) {post : Int32 → (Nat → Int32) → Prop} : ∀ (n : Nat) (se : Nat → Int32) (x1 : Int32) (x2 : Int32) (x3 : Int32) (H : Heap) (locs : List Loc) (ls : Array Slot), p_X5_areTableaux_12 lp lq rp rq post n se x1 x2 x3 → va_P D vwCl (wM k a mm nn we la si it be pa su wo le pp qq ro lo lp lq rp rq se no ne) H → va_D A (wM k a mm nn we la si it be pa su wo le pp qq ro lo lp lq rp rq se no ne) → va_S A s.heap H locs → lv_has ls 6 [(0, .ref (a 0)), (1, .int x1), (2, .int x2), (3, .int x3)] → W p l e ({ frames := 1, cells := 0, slots := 0, locals := 22 }) s m args below meth c H locs 0 0 (MQ below (va_Qi (fun (r : Int32) (u : (Nat → Int32)) => post r u) (fun u t => va_P D vwCl (wM k a mm nn we la si it be pa su wo le pp qq ro lo lp lq rp rq u no ne) t.heap) A) args s 0 0 A) (F0 m 12 ls []) := by
  obtain ⟨hx, hb, hr, hts, hown, hlocks, hml⟩ := id C0
  intro n
  induction n with
  | zero =>
    intro se x1 x2 x3 H locs ls hf
    exact False.elim hf
  | succ n ih =>
    intro se x1 x2 x3 H locs ls hf hP hD hS hl
    unfold p_X5_areTableaux_12 at hf
    refine lv_iload_n hx hb dX5_areTableaux_12 rfl (lv_at hl 3 rfl) ?_
    refine lv_bipush (v := 40) hx hb dX5_areTableaux_13 (by decide) ?_
    refine lv_icmp_gt (tgt := 31) hx hb dX5_areTableaux_15 (by decide) (fun c_2 => ?_) (fun c_2 => ?_)
    · have hf := hf.1 c_2
      refine lv_iconst (v := 0) hx hb dX5_areTableaux_31 (by decide) ?_
      refine lv_istore_n (lv' := [(3, .int 0), (0, .ref (a 0)), (1, .int x1), (2, .int x2)]) hx hb dX5_areTableaux_32 rfl hl (by decide) rfl (fun ls hl => ?_)
      obtain ⟨n_46, hf⟩ := hf
      exact k_X5_areTableaux_33 C0 hG n_46 se x1 x2 0 _ _ _ hf hP hD hS (lv_sub hl [1, 2, 3, 0] rfl)
    · have hf := hf.2 c_2
      refine lv_aload_n hx hb dX5_areTableaux_18 rfl (lv_at hl 0 rfl) ?_
      refine va_get (D := D) (ci := 5) (C := RX5) (T := TX5) (N := 22) hx hb hts in_X5_areTableaux_X5 hown hG.1 hP 0 rfl rfl 19 (by decide) (hts _ lk_X5_areTableaux_66) (fun _ h9 => h9) rfl dX5_areTableaux_19 ?_
      refine lv_iload_n hx hb dX5_areTableaux_22 rfl (lv_at hl 3 rfl) ?_
      refine lv_iconst (v := 0) hx hb dX5_areTableaux_23 (by decide) ?_
      obtain ⟨h_47, hf⟩ := hf
      refine va_zast hx hb hG.1 hP hD hS 17 2 rfl rfl h_47 dX5_areTableaux_24 (fun H locs hP hD hS => ?_)
      have hP : va_P D vwCl (wM k a mm nn we la si it be pa su wo le pp qq ro lo lp lq rp rq (upd se (x3.toNatClampNeg) (vp_nar .boolean 0)) no ne) H := hP
      have hD : va_D A (wM k a mm nn we la si it be pa su wo le pp qq ro lo lp lq rp rq (upd se (x3.toNatClampNeg) (vp_nar .boolean 0)) no ne) := hD
      refine lv_iinc (v := x3 + 1) (lv' := [(3, .int (x3 + 1)), (0, .ref (a 0)), (1, .int x1), (2, .int x2)]) hx hb dX5_areTableaux_25 hl (k := 3) rfl rfl (by decide) rfl (fun ls hl => ?_)
      refine lv_goto (tgt := 12) hx hb dX5_areTableaux_28 (by decide) ?_
      exact ih (upd se (x3.toNatClampNeg) (vp_nar .boolean 0)) x1 x2 (x3 + 1) _ _ _ hf hP hD hS (lv_sub hl [1, 2, 3, 0] rfl)
set_option maxHeartbeats 4000000 in
set_option maxRecDepth 100000 in
theorem c_X5_areTableaux {l : Launch} {D : va_G} {k : Nat → ClassId} (a : Nat → Nat) (mm : Int32) (nn : Int32) (we : Nat → Int32) (la : Nat → Int32) (si : Nat → Int32) (it : Nat → Int32) (be : Nat → Int32) (pa : Nat → Int32) (su : Nat → Int64) (wo : Nat → Int32) (le : Int32) (pp : Nat → Int32) (qq : Nat → Int32) (ro : Nat → Int32) (lo : Nat → Int32) (lp : Nat → Int32) (lq : Nat → Int32) (rp : Nat → Int32) (rq : Nat → Int32) (se : Nat → Int32) (no : Nat → Int64) (ne : Nat → Int64) {post : Int32 → (Nat → Int32) → Prop} (hf : p_X5_areTableaux lp lq rp rq se post) : ctI l yX5_areTableaux wsX5_areTableaux ({ frames := 1, cells := 0, slots := 0, locals := 22 }) D k [.ref (a 0)] (wM k a mm nn we la si it be pa su wo le pp qq ro lo lp lq rp rq se no ne) (fun u : (Nat → Int32) => wM k a mm nn we la si it be pa su wo le pp qq ro lo lp lq rp rq u no ne) (fun (r : Int32) (u : (Nat → Int32)) => post r u) := by
  refine Met.ofW (cc := cX5_areTableaux) (maxL := 6) (ret := (some .boolean)) (by decide) rfl ?_
  intro p e s m args below meth c s₁ B hml hv
  obtain ⟨rfl, hP, hG, hD0⟩ := hv
  have C0 : xM p s m ([.ref (a 0)] : List Value).toArray meth c cX5_areTableaux 6 RX5 (some .boolean) wsX5_areTableaux := ⟨B.exec, B.bytes, B.returns, atoms_spec (ws := wsX5_areTableaux) B.pre, findClass_of_methodNamed B.named, B.notSynchronized, hml⟩
  obtain ⟨hx, hb, hr, hts, hown, hlocks, hml⟩ := id C0
  have hD := xSelf hD0
  have hS : va_S (xIn (wM k a mm nn we la si it be pa su wo le pp qq ro lo lp lq rp rq se no ne)) s.heap s.heap [] := va_S.rf
  generalize xIn (wM k a mm nn we la si it be pa su wo le pp qq ro lo lp lq rp rq se no ne) = A at hD hS ⊢
  have hl := lv_entry ([.ref (a 0)]) (n := 6) (Nat.le_of_ble_eq_true rfl)
  rw [lg_entry_eq]
  generalize (lg_sl ([.ref (a 0)]) ++ List.replicate (6 - (lg_sl ([.ref (a 0)])).length) Slot.unset).toArray = ls at hl ⊢
  have hl : lv_has ls 6 [(0, .ref (a 0))] := hl
  unfold p_X5_areTableaux at hf
  refine lv_aload_n hx hb dX5_areTableaux_0 rfl (lv_at hl 0 rfl) ?_
  refine va_get (D := D) (ci := 5) (C := RX5) (T := TX5) (N := 22) hx hb hts in_X5_areTableaux_X5 hown hG.1 hP 0 rfl rfl 17 (by decide) (hts _ lk_X5_areTableaux_60) (fun _ h9 => h9) rfl dX5_areTableaux_1 ?_
  have hp : xPerm (wM k a mm nn we la si it be pa su wo le pp qq ro lo lp lq rp rq se no ne) (([((a 15, .inl (k 0, 9, .inl rp)) : Nat × va_E)]) ++ ((wM k a mm nn we la si it be pa su wo le pp qq ro lo lp lq rp rq se no ne).eraseIdx 15)) := (xCut1 (i := 15) (rfl : (wM k a mm nn we la si it be pa su wo le pp qq ro lo lp lq rp rq se no ne)[15]? = some ((a 15, .inl (k 0, 9, .inl rp)) : Nat × va_E)))
  refine xCallI (w := [((a 15, .inl (k 0, 9, .inl rp)) : Nat × va_E)]) (r := (wM k a mm nn we la si it be pa su wo le pp qq ro lo lp lq rp rq se no ne).eraseIdx 15) (va_runS (As := [.ref (a 15)]) (rest := []) ⟨hx, hb, hml, hown, hts⟩ (c_X5_total (a 15) rp hf) (va_cwS 1 hts gX5_areTableaux_X5_total rfl rfl rfl (by decide +kernel) ⟨Nat.le_of_ble_eq_true rfl, Nat.le_of_ble_eq_true rfl⟩) (xPreS hG hP hD hp) rfl rfl hl.1 rfl (lv_room (Nat.le_of_ble_eq_true rfl)) dX5_areTableaux_4 ⟨Nat.zero_le _, Nat.zero_le _⟩) hP hD hS hp (fun _ => rfl) (fun r_1 _ H locs hf hP hD hS => ?_)
  have hP : va_P D vwCl (wM k a mm nn we la si it be pa su wo le pp qq ro lo lp lq rp rq se no ne) H := xP_perm (xCut1 (i := 15) (rfl : (wM k a mm nn we la si it be pa su wo le pp qq ro lo lp lq rp rq se no ne)[15]? = some ((a 15, .inl (k 0, 9, .inl rp)) : Nat × va_E))).symm hP
  have hD : va_D A (wM k a mm nn we la si it be pa su wo le pp qq ro lo lp lq rp rq se no ne) := xD_perm (xCut1 (i := 15) (rfl : (wM k a mm nn we la si it be pa su wo le pp qq ro lo lp lq rp rq se no ne)[15]? = some ((a 15, .inl (k 0, 9, .inl rp)) : Nat × va_E))).symm hD
  refine lv_istore_n (lv' := [(1, .int r_1), (0, .ref (a 0))]) hx hb dX5_areTableaux_7 rfl hl (by decide) rfl (fun ls hl => ?_)
  refine lv_iconst (v := 1) hx hb dX5_areTableaux_8 (by decide) ?_
  refine lv_istore_n (lv' := [(2, .int 1), (1, .int r_1), (0, .ref (a 0))]) hx hb dX5_areTableaux_9 rfl hl (by decide) rfl (fun ls hl => ?_)
  refine lv_iconst (v := 0) hx hb dX5_areTableaux_10 (by decide) ?_
  refine lv_istore_n (lv' := [(3, .int 0), (2, .int 1), (1, .int r_1), (0, .ref (a 0))]) hx hb dX5_areTableaux_11 rfl hl (by decide) rfl (fun ls hl => ?_)
  obtain ⟨n_48, hf⟩ := hf
  exact k_X5_areTableaux_12 C0 hG n_48 se r_1 1 0 _ _ _ hf hP hD hS (lv_sub hl [3, 2, 1, 0] rfl)

def p_X5_back_64 (lq : Nat → Int32) (post : Int32 → (Nat → Int32) → Int32 → (Nat → Int32) → (Nat → Int32) → (Nat → Int32) → (Nat → Int32) → Prop) (k26 : (Nat → Int32) → Int32 → (Nat → Int32) → (Nat → Int32) → (Nat → Int32) → (Nat → Int32) → Int32 → Prop) (k33 : (Nat → Int32) → Int32 → (Nat → Int32) → (Nat → Int32) → (Nat → Int32) → (Nat → Int32) → Int32 → Int32 → Prop) (wo : Nat → Int32) (le : Int32) (lp : Nat → Int32) (rp : Nat → Int32) (rq : Nat → Int32) (se : Nat → Int32) (x1 : Int32) (x2 : Int32) : Prop := k33 wo le lp rp rq se x1 (x2 + 1)
def p_X5_back_128 (lq : Nat → Int32) (post : Int32 → (Nat → Int32) → Int32 → (Nat → Int32) → (Nat → Int32) → (Nat → Int32) → (Nat → Int32) → Prop) (k26 : (Nat → Int32) → Int32 → (Nat → Int32) → (Nat → Int32) → (Nat → Int32) → (Nat → Int32) → Int32 → Prop) (k112 : (Nat → Int32) → Int32 → (Nat → Int32) → (Nat → Int32) → (Nat → Int32) → (Nat → Int32) → Int32 → Int32 → Int32 → Prop) : Nat → (Nat → Int32) → Int32 → (Nat → Int32) → (Nat → Int32) → (Nat → Int32) → (Nat → Int32) → Int32 → Int32 → Int32 → Int32 → Prop
  | 0, _, _, _, _, _, _, _, _, _, _ => False
  | n + 1, wo, le, lp, rp, rq, se, x1, x3, x4, x5 => (vp_in ((40 * x4) + x5) 360 ∧ (((lp ((40 * x4) + x5).toNatClampNeg) < x3 → (vp_in ((40 * x4) + x5) 360 ∧ (vp_in ((40 * x4) + x5) 360 ∧ k112 wo le (upd lp (((40 * x4) + x5).toNatClampNeg) x3) rp rq se x1 (lp ((40 * x4) + x5).toNatClampNeg) (x4 + (-1))))) ∧ (¬ (lp ((40 * x4) + x5).toNatClampNeg) < x3 → p_X5_back_128 lq post k26 k112 n wo le lp rp rq se x1 x3 x4 (x5 + (-1)))))
def p_X5_back_112 (lq : Nat → Int32) (post : Int32 → (Nat → Int32) → Int32 → (Nat → Int32) → (Nat → Int32) → (Nat → Int32) → (Nat → Int32) → Prop) (k26 : (Nat → Int32) → Int32 → (Nat → Int32) → (Nat → Int32) → (Nat → Int32) → (Nat → Int32) → Int32 → Prop) : Nat → (Nat → Int32) → Int32 → (Nat → Int32) → (Nat → Int32) → (Nat → Int32) → (Nat → Int32) → Int32 → Int32 → Int32 → Prop
  | 0, _, _, _, _, _, _, _, _, _ => False
  | n + 1, wo, le, lp, rp, rq, se, x1, x3, x4 => ((x4 < 0 → (vp_in (x1 - 1) 40 ∧ k26 (upd wo ((x1 - 1).toNatClampNeg) x3) le lp rp rq se (x1 + (-1)))) ∧ (¬ x4 < 0 → (vp_in x4 9 ∧ (∃ n_24, p_X5_back_128 lq post k26 (fun wo le lp rp rq se x1 x3 x4 => p_X5_back_112 lq post k26 n wo le lp rp rq se x1 x3 x4) n_24 wo le lp rp rq se x1 x3 x4 ((rp x4.toNatClampNeg) - 1)))))
def p_X5_back_33 (lq : Nat → Int32) (post : Int32 → (Nat → Int32) → Int32 → (Nat → Int32) → (Nat → Int32) → (Nat → Int32) → (Nat → Int32) → Prop) (k26 : (Nat → Int32) → Int32 → (Nat → Int32) → (Nat → Int32) → (Nat → Int32) → (Nat → Int32) → Int32 → Prop) : Nat → (Nat → Int32) → Int32 → (Nat → Int32) → (Nat → Int32) → (Nat → Int32) → (Nat → Int32) → Int32 → Int32 → Prop
  | 0, _, _, _, _, _, _, _, _ => False
  | n + 1, wo, le, lp, rp, rq, se, x1, x2 => (vp_in x2 9 ∧ (((rq x2.toNatClampNeg) = 0 → p_X5_back_64 lq post k26 (fun wo le lp rp rq se x1 x2 => p_X5_back_33 lq post k26 n wo le lp rp rq se x1 x2) wo le lp rp rq se x1 x2) ∧ (¬ (rq x2.toNatClampNeg) = 0 → (vp_in x2 9 ∧ (vp_in (((40 * x2) + (rq x2.toNatClampNeg)) - 1) 360 ∧ (((lq (((40 * x2) + (rq x2.toNatClampNeg)) - 1).toNatClampNeg) = x1 → (vp_in x2 9 ∧ (vp_in x2 9 ∧ (vp_in x2 9 ∧ (vp_in x2 9 ∧ (vp_in x2 9 ∧ (vp_in ((40 * x2) + ((upd rp (x2.toNatClampNeg) ((rp x2.toNatClampNeg) - 1)) x2.toNatClampNeg)) 360 ∧ (∃ n_25, p_X5_back_112 lq post k26 n_25 wo le lp (upd rp (x2.toNatClampNeg) ((rp x2.toNatClampNeg) - 1)) (upd rq (x2.toNatClampNeg) ((rq x2.toNatClampNeg) - 1)) se x1 (lp ((40 * x2) + ((upd rp (x2.toNatClampNeg) ((rp x2.toNatClampNeg) - 1)) x2.toNatClampNeg)).toNatClampNeg) (x2 - 1))))))))) ∧ (¬ (lq (((40 * x2) + (rq x2.toNatClampNeg)) - 1).toNatClampNeg) = x1 → p_X5_back_64 lq post k26 (fun wo le lp rp rq se x1 x2 => p_X5_back_33 lq post k26 n wo le lp rp rq se x1 x2) wo le lp rp rq se x1 x2)))))))
def p_X5_back_26 (lq : Nat → Int32) (post : Int32 → (Nat → Int32) → Int32 → (Nat → Int32) → (Nat → Int32) → (Nat → Int32) → (Nat → Int32) → Prop) : Nat → (Nat → Int32) → Int32 → (Nat → Int32) → (Nat → Int32) → (Nat → Int32) → (Nat → Int32) → Int32 → Prop
  | 0, _, _, _, _, _, _, _ => False
  | n + 1, wo, le, lp, rp, rq, se, x1 => ((x1 < 1 → post le wo le lp rp rq se) ∧ (¬ x1 < 1 → (∃ n_26, p_X5_back_33 lq post (fun wo le lp rp rq se x1 => p_X5_back_26 lq post n wo le lp rp rq se x1) n_26 wo le lp rp rq se x1 0)))
def p_X5_back (wo : Nat → Int32) (le : Int32) (lp : Nat → Int32) (lq : Nat → Int32) (rp : Nat → Int32) (rq : Nat → Int32) (se : Nat → Int32) (post : Int32 → (Nat → Int32) → Int32 → (Nat → Int32) → (Nat → Int32) → (Nat → Int32) → (Nat → Int32) → Prop) : Prop := p_X5_areTableaux lp lq rp rq se (fun r_2 se_1 => ((r_2 = 0 → post (-2) wo le lp rp rq se_1) ∧ (¬ r_2 = 0 → p_X5_total rp (fun r_4 => (∃ n_27, p_X5_back_26 lq post n_27 wo r_4 lp rp rq se_1 r_4)))))
theorem in_X5_back_X5 : ∀ w ∈ u_ws RX5 TX5 22, w ∈ wsX5_back := by decide +kernel
theorem lk_X5_back_110 : Cond.fieldLink RX5 110 "GrowingCornersModel" "letters" "I" ∈ wsX5_back := by decide +kernel
theorem lk_X5_back_39 : Cond.fieldLink RX5 39 "GrowingCornersModel" "word" "[I" ∈ wsX5_back := by decide +kernel
theorem lk_X5_back_54 : Cond.fieldLink RX5 54 "GrowingCornersModel" "laidP" "[I" ∈ wsX5_back := by decide +kernel
theorem lk_X5_back_57 : Cond.fieldLink RX5 57 "GrowingCornersModel" "laidQ" "[I" ∈ wsX5_back := by decide +kernel
theorem lk_X5_back_60 : Cond.fieldLink RX5 60 "GrowingCornersModel" "rowsP" "[I" ∈ wsX5_back := by decide +kernel
theorem lk_X5_back_63 : Cond.fieldLink RX5 63 "GrowingCornersModel" "rowsQ" "[I" ∈ wsX5_back := by decide +kernel
set_option maxHeartbeats 4000000 in
set_option maxRecDepth 100000 in
theorem k_X5_back_64 {p : Program} {l : Launch} {e : Env} {s : State} {m : MethodId} {args : Array Value} {below : List Frame} {meth : Method} {c : Code} {A : Nat → Prop} {D : va_G} {k : Nat → ClassId} {a : Nat → Nat} {mm : Int32} {nn : Int32} {we : Nat → Int32} {la : Nat → Int32} {si : Nat → Int32} {it : Nat → Int32} {be : Nat → Int32} {pa : Nat → Int32} {su : Nat → Int64} {pp : Nat → Int32} {qq : Nat → Int32} {ro : Nat → Int32} {lo : Nat → Int32} {lq : Nat → Int32} {no : Nat → Int64} {ne : Nat → Int64} (C0 : xM p s m args meth c cX5_back 7 RX5 (some .int) wsX5_back) (hG : xG D k s) {post : Int32 → (Nat → Int32) → Int32 → (Nat → Int32) → (Nat → Int32) → (Nat → Int32) → (Nat → Int32) → Prop} {k26 : (Nat → Int32) → Int32 → (Nat → Int32) → (Nat → Int32) → (Nat → Int32) → (Nat → Int32) → Int32 → Prop} (hk26 : ∀ (wo : Nat → Int32) (le : Int32) (lp : Nat → Int32) (rp : Nat → Int32) (rq : Nat → Int32) (se : Nat → Int32) (x1 : Int32) (H : Heap) (locs : List Loc) (ls : Array Slot), k26 wo le lp rp rq se x1 → va_P D vwCl (wM k a mm nn we la si it be pa su wo le pp qq ro lo lp lq rp rq se no ne) H → va_D A (wM k a mm nn we la si it be pa su wo le pp qq ro lo lp lq rp rq se no ne) → va_S A s.heap H locs → lv_has ls 7 [(0, .ref (a 0)), (1, .int x1)] → W p l e ({ frames := 2, cells := 0, slots := 0, locals := 47 }) s m args below meth c H locs 0 0 (MQ below (va_Qi (fun (r : Int32) (u : (Nat → Int32) × Int32 × (Nat → Int32) × (Nat → Int32) × (Nat → Int32) × (Nat → Int32)) => post r u.1 u.2.1 u.2.2.1 u.2.2.2.1 u.2.2.2.2.1 u.2.2.2.2.2) (fun u t => va_P D vwCl (wM k a mm nn we la si it be pa su (u.1) (u.2.1) pp qq ro lo (u.2.2.1) lq (u.2.2.2.1) (u.2.2.2.2.1) (u.2.2.2.2.2) no ne) t.heap) A) args s 0 0 A) (F0 m 26 ls [])) {k33 : (Nat → Int32) → Int32 → (Nat → Int32) → (Nat → Int32) → (Nat → Int32) → (Nat → Int32) → Int32 → Int32 → Prop} (hk33 : ∀ (wo : Nat → Int32) (le : Int32) (lp : Nat → Int32) (rp : Nat → Int32) (rq : Nat → Int32) (se : Nat → Int32) (x1 : Int32) (x2 : Int32) (H : Heap) (locs : List Loc) (ls : Array Slot), k33 wo le lp rp rq se x1 x2 → va_P D vwCl (wM k a mm nn we la si it be pa su wo le pp qq ro lo lp lq rp rq se no ne) H → va_D A (wM k a mm nn we la si it be pa su wo le pp qq ro lo lp lq rp rq se no ne) → va_S A s.heap H locs → lv_has ls 7 [(0, .ref (a 0)), (1, .int x1), (2, .int x2)] → W p l e ({ frames := 2, cells := 0, slots := 0, locals := 47 }) s m args below meth c H locs 0 0 (MQ below (va_Qi (fun (r : Int32) (u : (Nat → Int32) × Int32 × (Nat → Int32) × (Nat → Int32) × (Nat → Int32) × (Nat → Int32)) => post r u.1 u.2.1 u.2.2.1 u.2.2.2.1 u.2.2.2.2.1 u.2.2.2.2.2) (fun u t => va_P D vwCl (wM k a mm nn we la si it be pa su (u.1) (u.2.1) pp qq ro lo (u.2.2.1) lq (u.2.2.2.1) (u.2.2.2.2.1) (u.2.2.2.2.2) no ne) t.heap) A) args s 0 0 A) (F0 m 33 ls [])) : ∀ (wo : Nat → Int32) (le : Int32) (lp : Nat → Int32) (rp : Nat → Int32) (rq : Nat → Int32) (se : Nat → Int32) (x1 : Int32) (x2 : Int32) (H : Heap) (locs : List Loc) (ls : Array Slot), p_X5_back_64 lq post k26 k33 wo le lp rp rq se x1 x2 → va_P D vwCl (wM k a mm nn we la si it be pa su wo le pp qq ro lo lp lq rp rq se no ne) H → va_D A (wM k a mm nn we la si it be pa su wo le pp qq ro lo lp lq rp rq se no ne) → va_S A s.heap H locs → lv_has ls 7 [(0, .ref (a 0)), (1, .int x1), (2, .int x2)] → W p l e ({ frames := 2, cells := 0, slots := 0, locals := 47 }) s m args below meth c H locs 0 0 (MQ below (va_Qi (fun (r : Int32) (u : (Nat → Int32) × Int32 × (Nat → Int32) × (Nat → Int32) × (Nat → Int32) × (Nat → Int32)) => post r u.1 u.2.1 u.2.2.1 u.2.2.2.1 u.2.2.2.2.1 u.2.2.2.2.2) (fun u t => va_P D vwCl (wM k a mm nn we la si it be pa su (u.1) (u.2.1) pp qq ro lo (u.2.2.1) lq (u.2.2.2.1) (u.2.2.2.2.1) (u.2.2.2.2.2) no ne) t.heap) A) args s 0 0 A) (F0 m 64 ls []) := by
  obtain ⟨hx, hb, hr, hts, hown, hlocks, hml⟩ := id C0
  intro wo le lp rp rq se x1 x2 H locs ls hf hP hD hS hl
  unfold p_X5_back_64 at hf
  refine lv_iinc (v := x2 + 1) (lv' := [(2, .int (x2 + 1)), (0, .ref (a 0)), (1, .int x1)]) hx hb dX5_back_64 hl (k := 2) rfl rfl (by decide) rfl (fun ls hl => ?_)
  refine lv_goto (tgt := 33) hx hb dX5_back_67 (by decide) ?_
  exact hk33 wo le lp rp rq se x1 (x2 + 1) _ _ _ hf hP hD hS (lv_sub hl [1, 2, 0] rfl)
set_option maxHeartbeats 4000000 in
set_option maxRecDepth 100000 in
theorem k_X5_back_128 {p : Program} {l : Launch} {e : Env} {s : State} {m : MethodId} {args : Array Value} {below : List Frame} {meth : Method} {c : Code} {A : Nat → Prop} {D : va_G} {k : Nat → ClassId} {a : Nat → Nat} {mm : Int32} {nn : Int32} {we : Nat → Int32} {la : Nat → Int32} {si : Nat → Int32} {it : Nat → Int32} {be : Nat → Int32} {pa : Nat → Int32} {su : Nat → Int64} {pp : Nat → Int32} {qq : Nat → Int32} {ro : Nat → Int32} {lo : Nat → Int32} {lq : Nat → Int32} {no : Nat → Int64} {ne : Nat → Int64} (C0 : xM p s m args meth c cX5_back 7 RX5 (some .int) wsX5_back) (hG : xG D k s) {post : Int32 → (Nat → Int32) → Int32 → (Nat → Int32) → (Nat → Int32) → (Nat → Int32) → (Nat → Int32) → Prop} {k26 : (Nat → Int32) → Int32 → (Nat → Int32) → (Nat → Int32) → (Nat → Int32) → (Nat → Int32) → Int32 → Prop} (hk26 : ∀ (wo : Nat → Int32) (le : Int32) (lp : Nat → Int32) (rp : Nat → Int32) (rq : Nat → Int32) (se : Nat → Int32) (x1 : Int32) (H : Heap) (locs : List Loc) (ls : Array Slot), k26 wo le lp rp rq se x1 → va_P D vwCl (wM k a mm nn we la si it be pa su wo le pp qq ro lo lp lq rp rq se no ne) H → va_D A (wM k a mm nn we la si it be pa su wo le pp qq ro lo lp lq rp rq se no ne) → va_S A s.heap H locs → lv_has ls 7 [(0, .ref (a 0)), (1, .int x1)] → W p l e ({ frames := 2, cells := 0, slots := 0, locals := 47 }) s m args below meth c H locs 0 0 (MQ below (va_Qi (fun (r : Int32) (u : (Nat → Int32) × Int32 × (Nat → Int32) × (Nat → Int32) × (Nat → Int32) × (Nat → Int32)) => post r u.1 u.2.1 u.2.2.1 u.2.2.2.1 u.2.2.2.2.1 u.2.2.2.2.2) (fun u t => va_P D vwCl (wM k a mm nn we la si it be pa su (u.1) (u.2.1) pp qq ro lo (u.2.2.1) lq (u.2.2.2.1) (u.2.2.2.2.1) (u.2.2.2.2.2) no ne) t.heap) A) args s 0 0 A) (F0 m 26 ls [])) {k112 : (Nat → Int32) → Int32 → (Nat → Int32) → (Nat → Int32) → (Nat → Int32) → (Nat → Int32) → Int32 → Int32 → Int32 → Prop} (hk112 : ∀ (wo : Nat → Int32) (le : Int32) (lp : Nat → Int32) (rp : Nat → Int32) (rq : Nat → Int32) (se : Nat → Int32) (x1 : Int32) (x3 : Int32) (x4 : Int32) (H : Heap) (locs : List Loc) (ls : Array Slot), k112 wo le lp rp rq se x1 x3 x4 → va_P D vwCl (wM k a mm nn we la si it be pa su wo le pp qq ro lo lp lq rp rq se no ne) H → va_D A (wM k a mm nn we la si it be pa su wo le pp qq ro lo lp lq rp rq se no ne) → va_S A s.heap H locs → lv_has ls 7 [(0, .ref (a 0)), (1, .int x1), (3, .int x3), (4, .int x4)] → W p l e ({ frames := 2, cells := 0, slots := 0, locals := 47 }) s m args below meth c H locs 0 0 (MQ below (va_Qi (fun (r : Int32) (u : (Nat → Int32) × Int32 × (Nat → Int32) × (Nat → Int32) × (Nat → Int32) × (Nat → Int32)) => post r u.1 u.2.1 u.2.2.1 u.2.2.2.1 u.2.2.2.2.1 u.2.2.2.2.2) (fun u t => va_P D vwCl (wM k a mm nn we la si it be pa su (u.1) (u.2.1) pp qq ro lo (u.2.2.1) lq (u.2.2.2.1) (u.2.2.2.2.1) (u.2.2.2.2.2) no ne) t.heap) A) args s 0 0 A) (F0 m 112 ls [])) : ∀ (n : Nat) (wo : Nat → Int32) (le : Int32) (lp : Nat → Int32) (rp : Nat → Int32) (rq : Nat → Int32) (se : Nat → Int32) (x1 : Int32) (x3 : Int32) (x4 : Int32) (x5 : Int32) (H : Heap) (locs : List Loc) (ls : Array Slot), p_X5_back_128 lq post k26 k112 n wo le lp rp rq se x1 x3 x4 x5 → va_P D vwCl (wM k a mm nn we la si it be pa su wo le pp qq ro lo lp lq rp rq se no ne) H → va_D A (wM k a mm nn we la si it be pa su wo le pp qq ro lo lp lq rp rq se no ne) → va_S A s.heap H locs → lv_has ls 7 [(0, .ref (a 0)), (1, .int x1), (3, .int x3), (4, .int x4), (5, .int x5)] → W p l e ({ frames := 2, cells := 0, slots := 0, locals := 47 }) s m args below meth c H locs 0 0 (MQ below (va_Qi (fun (r : Int32) (u : (Nat → Int32) × Int32 × (Nat → Int32) × (Nat → Int32) × (Nat → Int32) × (Nat → Int32)) => post r u.1 u.2.1 u.2.2.1 u.2.2.2.1 u.2.2.2.2.1 u.2.2.2.2.2) (fun u t => va_P D vwCl (wM k a mm nn we la si it be pa su (u.1) (u.2.1) pp qq ro lo (u.2.2.1) lq (u.2.2.2.1) (u.2.2.2.2.1) (u.2.2.2.2.2) no ne) t.heap) A) args s 0 0 A) (F0 m 128 ls []) := by
  obtain ⟨hx, hb, hr, hts, hown, hlocks, hml⟩ := id C0
  intro n
  induction n with
  | zero =>
    intro wo le lp rp rq se x1 x3 x4 x5 H locs ls hf
    exact False.elim hf
  | succ n ih =>
    intro wo le lp rp rq se x1 x3 x4 x5 H locs ls hf hP hD hS hl
    unfold p_X5_back_128 at hf
    refine lv_aload_n hx hb dX5_back_128 rfl (lv_at hl 0 rfl) ?_
    refine va_get (D := D) (ci := 5) (C := RX5) (T := TX5) (N := 22) hx hb hts in_X5_back_X5 hown hG.1 hP 0 rfl rfl 15 (by decide) (hts _ lk_X5_back_54) (fun _ h9 => h9) rfl dX5_back_129 ?_
    refine lv_bipush (v := 40) hx hb dX5_back_132 (by decide) ?_
    refine lv_iload hx hb dX5_back_134 (lv_at hl 3 rfl) ?_
    refine lv_imul hx hb dX5_back_136 ?_
    refine lv_iload hx hb dX5_back_137 (lv_at hl 4 rfl) ?_
    refine lv_iadd hx hb dX5_back_139 ?_
    obtain ⟨h_20, hf⟩ := hf
    refine va_iald hx hb hG.1 hP 13 0 rfl rfl h_20 dX5_back_140 ?_
    refine lv_iload_n hx hb dX5_back_141 rfl (lv_at hl 2 rfl) ?_
    refine lv_icmp_lt (tgt := 151) hx hb dX5_back_142 (by decide) (fun c_21 => ?_) (fun c_21 => ?_)
    · have hf := hf.1 c_21
      refine lv_aload_n hx hb dX5_back_151 rfl (lv_at hl 0 rfl) ?_
      refine va_get (D := D) (ci := 5) (C := RX5) (T := TX5) (N := 22) hx hb hts in_X5_back_X5 hown hG.1 hP 0 rfl rfl 15 (by decide) (hts _ lk_X5_back_54) (fun _ h9 => h9) rfl dX5_back_152 ?_
      refine lv_bipush (v := 40) hx hb dX5_back_155 (by decide) ?_
      refine lv_iload hx hb dX5_back_157 (lv_at hl 3 rfl) ?_
      refine lv_imul hx hb dX5_back_159 ?_
      refine lv_iload hx hb dX5_back_160 (lv_at hl 4 rfl) ?_
      refine lv_iadd hx hb dX5_back_162 ?_
      obtain ⟨h_22, hf⟩ := hf
      refine va_iald hx hb hG.1 hP 13 0 rfl rfl h_22 dX5_back_163 ?_
      refine lv_istore (lv' := [(6, .int (lp ((40 * x4) + x5).toNatClampNeg)), (0, .ref (a 0)), (1, .int x1), (3, .int x3), (4, .int x4), (5, .int x5)]) hx hb dX5_back_164 hl (by decide) rfl (fun ls hl => ?_)
      refine lv_aload_n hx hb dX5_back_166 rfl (lv_at hl 1 rfl) ?_
      refine va_get (D := D) (ci := 5) (C := RX5) (T := TX5) (N := 22) hx hb hts in_X5_back_X5 hown hG.1 hP 0 rfl rfl 15 (by decide) (hts _ lk_X5_back_54) (fun _ h9 => h9) rfl dX5_back_167 ?_
      refine lv_bipush (v := 40) hx hb dX5_back_170 (by decide) ?_
      refine lv_iload hx hb dX5_back_172 (lv_at hl 4 rfl) ?_
      refine lv_imul hx hb dX5_back_174 ?_
      refine lv_iload hx hb dX5_back_175 (lv_at hl 5 rfl) ?_
      refine lv_iadd hx hb dX5_back_177 ?_
      refine lv_iload_n hx hb dX5_back_178 rfl (lv_at hl 3 rfl) ?_
      obtain ⟨h_23, hf⟩ := hf
      refine va_iast hx hb hG.1 hP hD hS 13 0 rfl rfl h_23 dX5_back_179 (fun H locs hP hD hS => ?_)
      have hP : va_P D vwCl (wM k a mm nn we la si it be pa su wo le pp qq ro lo (upd lp (((40 * x4) + x5).toNatClampNeg) x3) lq rp rq se no ne) H := hP
      have hD : va_D A (wM k a mm nn we la si it be pa su wo le pp qq ro lo (upd lp (((40 * x4) + x5).toNatClampNeg) x3) lq rp rq se no ne) := hD
      refine lv_iload hx hb dX5_back_180 (lv_at hl 0 rfl) ?_
      refine lv_istore_n (lv' := [(3, .int (lp ((40 * x4) + x5).toNatClampNeg)), (6, .int (lp ((40 * x4) + x5).toNatClampNeg)), (0, .ref (a 0)), (1, .int x1), (4, .int x4), (5, .int x5)]) hx hb dX5_back_182 rfl hl (by decide) rfl (fun ls hl => ?_)
      refine lv_iinc (v := x4 + (-1)) (lv' := [(4, .int (x4 + (-1))), (3, .int (lp ((40 * x4) + x5).toNatClampNeg)), (6, .int (lp ((40 * x4) + x5).toNatClampNeg)), (0, .ref (a 0)), (1, .int x1), (5, .int x5)]) hx hb dX5_back_183 hl (k := 4) rfl rfl (by decide) rfl (fun ls hl => ?_)
      refine lv_goto (tgt := 112) hx hb dX5_back_186 (by decide) ?_
      exact hk112 wo le (upd lp (((40 * x4) + x5).toNatClampNeg) x3) rp rq se x1 (lp ((40 * x4) + x5).toNatClampNeg) (x4 + (-1)) _ _ _ hf hP hD hS (lv_sub hl [3, 4, 1, 0] rfl)
    · have hf := hf.2 c_21
      refine lv_iinc (v := x5 + (-1)) (lv' := [(5, .int (x5 + (-1))), (0, .ref (a 0)), (1, .int x1), (3, .int x3), (4, .int x4)]) hx hb dX5_back_145 hl (k := 4) rfl rfl (by decide) rfl (fun ls hl => ?_)
      refine lv_goto (tgt := 128) hx hb dX5_back_148 (by decide) ?_
      exact ih wo le lp rp rq se x1 x3 x4 (x5 + (-1)) _ _ _ hf hP hD hS (lv_sub hl [1, 2, 3, 4, 0] rfl)
set_option maxHeartbeats 4000000 in
set_option maxRecDepth 100000 in
theorem k_X5_back_112 {p : Program} {l : Launch} {e : Env} {s : State} {m : MethodId} {args : Array Value} {below : List Frame} {meth : Method} {c : Code} {A : Nat → Prop} {D : va_G} {k : Nat → ClassId} {a : Nat → Nat} {mm : Int32} {nn : Int32} {we : Nat → Int32} {la : Nat → Int32} {si : Nat → Int32} {it : Nat → Int32} {be : Nat → Int32} {pa : Nat → Int32} {su : Nat → Int64} {pp : Nat → Int32} {qq : Nat → Int32} {ro : Nat → Int32} {lo : Nat → Int32} {lq : Nat → Int32} {no : Nat → Int64} {ne : Nat → Int64} (C0 : xM p s m args meth c cX5_back 7 RX5 (some .int) wsX5_back) (hG : xG D k s) {post : Int32 → (Nat → Int32) → Int32 → (Nat → Int32) → (Nat → Int32) → (Nat → Int32) → (Nat → Int32) → Prop} {k26 : (Nat → Int32) → Int32 → (Nat → Int32) → (Nat → Int32) → (Nat → Int32) → (Nat → Int32) → Int32 → Prop} (hk26 : ∀ (wo : Nat → Int32) (le : Int32) (lp : Nat → Int32) (rp : Nat → Int32) (rq : Nat → Int32) (se : Nat → Int32) (x1 : Int32) (H : Heap) (locs : List Loc) (ls : Array Slot), k26 wo le lp rp rq se x1 → va_P D vwCl (wM k a mm nn we la si it be pa su wo le pp qq ro lo lp lq rp rq se no ne) H → va_D A (wM k a mm nn we la si it be pa su wo le pp qq ro lo lp lq rp rq se no ne) → va_S A s.heap H locs → lv_has ls 7 [(0, .ref (a 0)), (1, .int x1)] → W p l e ({ frames := 2, cells := 0, slots := 0, locals := 47 }) s m args below meth c H locs 0 0 (MQ below (va_Qi (fun (r : Int32) (u : (Nat → Int32) × Int32 × (Nat → Int32) × (Nat → Int32) × (Nat → Int32) × (Nat → Int32)) => post r u.1 u.2.1 u.2.2.1 u.2.2.2.1 u.2.2.2.2.1 u.2.2.2.2.2) (fun u t => va_P D vwCl (wM k a mm nn we la si it be pa su (u.1) (u.2.1) pp qq ro lo (u.2.2.1) lq (u.2.2.2.1) (u.2.2.2.2.1) (u.2.2.2.2.2) no ne) t.heap) A) args s 0 0 A) (F0 m 26 ls [])) : ∀ (n : Nat) (wo : Nat → Int32) (le : Int32) (lp : Nat → Int32) (rp : Nat → Int32) (rq : Nat → Int32) (se : Nat → Int32) (x1 : Int32) (x3 : Int32) (x4 : Int32) (H : Heap) (locs : List Loc) (ls : Array Slot), p_X5_back_112 lq post k26 n wo le lp rp rq se x1 x3 x4 → va_P D vwCl (wM k a mm nn we la si it be pa su wo le pp qq ro lo lp lq rp rq se no ne) H → va_D A (wM k a mm nn we la si it be pa su wo le pp qq ro lo lp lq rp rq se no ne) → va_S A s.heap H locs → lv_has ls 7 [(0, .ref (a 0)), (1, .int x1), (3, .int x3), (4, .int x4)] → W p l e ({ frames := 2, cells := 0, slots := 0, locals := 47 }) s m args below meth c H locs 0 0 (MQ below (va_Qi (fun (r : Int32) (u : (Nat → Int32) × Int32 × (Nat → Int32) × (Nat → Int32) × (Nat → Int32) × (Nat → Int32)) => post r u.1 u.2.1 u.2.2.1 u.2.2.2.1 u.2.2.2.2.1 u.2.2.2.2.2) (fun u t => va_P D vwCl (wM k a mm nn we la si it be pa su (u.1) (u.2.1) pp qq ro lo (u.2.2.1) lq (u.2.2.2.1) (u.2.2.2.2.1) (u.2.2.2.2.2) no ne) t.heap) A) args s 0 0 A) (F0 m 112 ls []) := by
  obtain ⟨hx, hb, hr, hts, hown, hlocks, hml⟩ := id C0
  intro n
  induction n with
  | zero =>
    intro wo le lp rp rq se x1 x3 x4 H locs ls hf
    exact False.elim hf
  | succ n ih =>
    intro wo le lp rp rq se x1 x3 x4 H locs ls hf hP hD hS hl
    unfold p_X5_back_112 at hf
    refine lv_iload hx hb dX5_back_112 (lv_at hl 3 rfl) ?_
    refine lv_if_lt (tgt := 189) hx hb dX5_back_114 (by decide) (fun c_17 => ?_) (fun c_17 => ?_)
    · have hf := hf.1 c_17
      refine lv_aload_n hx hb dX5_back_189 rfl (lv_at hl 0 rfl) ?_
      refine va_get (D := D) (ci := 5) (C := RX5) (T := TX5) (N := 22) hx hb hts in_X5_back_X5 hown hG.1 hP 0 rfl rfl 9 (by decide) (hts _ lk_X5_back_39) (fun _ h9 => h9) rfl dX5_back_190 ?_
      refine lv_iload_n hx hb dX5_back_193 rfl (lv_at hl 1 rfl) ?_
      refine lv_iconst (v := 1) hx hb dX5_back_194 (by decide) ?_
      refine lv_isub hx hb dX5_back_195 ?_
      refine lv_iload_n hx hb dX5_back_196 rfl (lv_at hl 2 rfl) ?_
      obtain ⟨h_18, hf⟩ := hf
      refine va_iast hx hb hG.1 hP hD hS 8 0 rfl rfl h_18 dX5_back_197 (fun H locs hP hD hS => ?_)
      have hP : va_P D vwCl (wM k a mm nn we la si it be pa su (upd wo ((x1 - 1).toNatClampNeg) x3) le pp qq ro lo lp lq rp rq se no ne) H := hP
      have hD : va_D A (wM k a mm nn we la si it be pa su (upd wo ((x1 - 1).toNatClampNeg) x3) le pp qq ro lo lp lq rp rq se no ne) := hD
      refine lv_iinc (v := x1 + (-1)) (lv' := [(1, .int (x1 + (-1))), (0, .ref (a 0)), (3, .int x3), (4, .int x4)]) hx hb dX5_back_198 hl (k := 1) rfl rfl (by decide) rfl (fun ls hl => ?_)
      refine lv_goto (tgt := 26) hx hb dX5_back_201 (by decide) ?_
      exact hk26 (upd wo ((x1 - 1).toNatClampNeg) x3) le lp rp rq se (x1 + (-1)) _ _ _ hf hP hD hS (lv_sub hl [1, 0] rfl)
    · have hf := hf.2 c_17
      refine lv_aload_n hx hb dX5_back_117 rfl (lv_at hl 0 rfl) ?_
      refine va_get (D := D) (ci := 5) (C := RX5) (T := TX5) (N := 22) hx hb hts in_X5_back_X5 hown hG.1 hP 0 rfl rfl 17 (by decide) (hts _ lk_X5_back_60) (fun _ h9 => h9) rfl dX5_back_118 ?_
      refine lv_iload hx hb dX5_back_121 (lv_at hl 3 rfl) ?_
      obtain ⟨h_19, hf⟩ := hf
      refine va_iald hx hb hG.1 hP 15 0 rfl rfl h_19 dX5_back_123 ?_
      refine lv_iconst (v := 1) hx hb dX5_back_124 (by decide) ?_
      refine lv_isub hx hb dX5_back_125 ?_
      refine lv_istore (lv' := [(5, .int ((rp x4.toNatClampNeg) - 1)), (0, .ref (a 0)), (1, .int x1), (3, .int x3), (4, .int x4)]) hx hb dX5_back_126 hl (by decide) rfl (fun ls hl => ?_)
      obtain ⟨n_24, hf⟩ := hf
      exact k_X5_back_128 C0 hG hk26 ih n_24 wo le lp rp rq se x1 x3 x4 ((rp x4.toNatClampNeg) - 1) _ _ _ hf hP hD hS (lv_sub hl [1, 2, 3, 4, 0] rfl)
set_option maxHeartbeats 4000000 in
set_option maxRecDepth 100000 in
theorem k_X5_back_33 {p : Program} {l : Launch} {e : Env} {s : State} {m : MethodId} {args : Array Value} {below : List Frame} {meth : Method} {c : Code} {A : Nat → Prop} {D : va_G} {k : Nat → ClassId} {a : Nat → Nat} {mm : Int32} {nn : Int32} {we : Nat → Int32} {la : Nat → Int32} {si : Nat → Int32} {it : Nat → Int32} {be : Nat → Int32} {pa : Nat → Int32} {su : Nat → Int64} {pp : Nat → Int32} {qq : Nat → Int32} {ro : Nat → Int32} {lo : Nat → Int32} {lq : Nat → Int32} {no : Nat → Int64} {ne : Nat → Int64} (C0 : xM p s m args meth c cX5_back 7 RX5 (some .int) wsX5_back) (hG : xG D k s) {post : Int32 → (Nat → Int32) → Int32 → (Nat → Int32) → (Nat → Int32) → (Nat → Int32) → (Nat → Int32) → Prop} {k26 : (Nat → Int32) → Int32 → (Nat → Int32) → (Nat → Int32) → (Nat → Int32) → (Nat → Int32) → Int32 → Prop} (hk26 : ∀ (wo : Nat → Int32) (le : Int32) (lp : Nat → Int32) (rp : Nat → Int32) (rq : Nat → Int32) (se : Nat → Int32) (x1 : Int32) (H : Heap) (locs : List Loc) (ls : Array Slot), k26 wo le lp rp rq se x1 → va_P D vwCl (wM k a mm nn we la si it be pa su wo le pp qq ro lo lp lq rp rq se no ne) H → va_D A (wM k a mm nn we la si it be pa su wo le pp qq ro lo lp lq rp rq se no ne) → va_S A s.heap H locs → lv_has ls 7 [(0, .ref (a 0)), (1, .int x1)] → W p l e ({ frames := 2, cells := 0, slots := 0, locals := 47 }) s m args below meth c H locs 0 0 (MQ below (va_Qi (fun (r : Int32) (u : (Nat → Int32) × Int32 × (Nat → Int32) × (Nat → Int32) × (Nat → Int32) × (Nat → Int32)) => post r u.1 u.2.1 u.2.2.1 u.2.2.2.1 u.2.2.2.2.1 u.2.2.2.2.2) (fun u t => va_P D vwCl (wM k a mm nn we la si it be pa su (u.1) (u.2.1) pp qq ro lo (u.2.2.1) lq (u.2.2.2.1) (u.2.2.2.2.1) (u.2.2.2.2.2) no ne) t.heap) A) args s 0 0 A) (F0 m 26 ls [])) : ∀ (n : Nat) (wo : Nat → Int32) (le : Int32) (lp : Nat → Int32) (rp : Nat → Int32) (rq : Nat → Int32) (se : Nat → Int32) (x1 : Int32) (x2 : Int32) (H : Heap) (locs : List Loc) (ls : Array Slot), p_X5_back_33 lq post k26 n wo le lp rp rq se x1 x2 → va_P D vwCl (wM k a mm nn we la si it be pa su wo le pp qq ro lo lp lq rp rq se no ne) H → va_D A (wM k a mm nn we la si it be pa su wo le pp qq ro lo lp lq rp rq se no ne) → va_S A s.heap H locs → lv_has ls 7 [(0, .ref (a 0)), (1, .int x1), (2, .int x2)] → W p l e ({ frames := 2, cells := 0, slots := 0, locals := 47 }) s m args below meth c H locs 0 0 (MQ below (va_Qi (fun (r : Int32) (u : (Nat → Int32) × Int32 × (Nat → Int32) × (Nat → Int32) × (Nat → Int32) × (Nat → Int32)) => post r u.1 u.2.1 u.2.2.1 u.2.2.2.1 u.2.2.2.2.1 u.2.2.2.2.2) (fun u t => va_P D vwCl (wM k a mm nn we la si it be pa su (u.1) (u.2.1) pp qq ro lo (u.2.2.1) lq (u.2.2.2.1) (u.2.2.2.2.1) (u.2.2.2.2.2) no ne) t.heap) A) args s 0 0 A) (F0 m 33 ls []) := by
  obtain ⟨hx, hb, hr, hts, hown, hlocks, hml⟩ := id C0
  intro n
  induction n with
  | zero =>
    intro wo le lp rp rq se x1 x2 H locs ls hf
    exact False.elim hf
  | succ n ih =>
    intro wo le lp rp rq se x1 x2 H locs ls hf hP hD hS hl
    unfold p_X5_back_33 at hf
    refine lv_aload_n hx hb dX5_back_33 rfl (lv_at hl 0 rfl) ?_
    refine va_get (D := D) (ci := 5) (C := RX5) (T := TX5) (N := 22) hx hb hts in_X5_back_X5 hown hG.1 hP 0 rfl rfl 18 (by decide) (hts _ lk_X5_back_63) (fun _ h9 => h9) rfl dX5_back_34 ?_
    refine lv_iload_n hx hb dX5_back_37 rfl (lv_at hl 2 rfl) ?_
    obtain ⟨h_6, hf⟩ := hf
    refine va_iald hx hb hG.1 hP 16 0 rfl rfl h_6 dX5_back_38 ?_
    refine lv_if_eq (tgt := 64) hx hb dX5_back_39 (by decide) (fun c_7 => ?_) (fun c_7 => ?_)
    · have hf := hf.1 c_7
      exact k_X5_back_64 C0 hG hk26 ih wo le lp rp rq se x1 x2 _ _ _ hf hP hD hS (lv_sub hl [0, 1, 2] rfl)
    · have hf := hf.2 c_7
      refine lv_aload_n hx hb dX5_back_42 rfl (lv_at hl 0 rfl) ?_
      refine va_get (D := D) (ci := 5) (C := RX5) (T := TX5) (N := 22) hx hb hts in_X5_back_X5 hown hG.1 hP 0 rfl rfl 16 (by decide) (hts _ lk_X5_back_57) (fun _ h9 => h9) rfl dX5_back_43 ?_
      refine lv_bipush (v := 40) hx hb dX5_back_46 (by decide) ?_
      refine lv_iload_n hx hb dX5_back_48 rfl (lv_at hl 2 rfl) ?_
      refine lv_imul hx hb dX5_back_49 ?_
      refine lv_aload_n hx hb dX5_back_50 rfl (lv_at hl 0 rfl) ?_
      refine va_get (D := D) (ci := 5) (C := RX5) (T := TX5) (N := 22) hx hb hts in_X5_back_X5 hown hG.1 hP 0 rfl rfl 18 (by decide) (hts _ lk_X5_back_63) (fun _ h9 => h9) rfl dX5_back_51 ?_
      refine lv_iload_n hx hb dX5_back_54 rfl (lv_at hl 2 rfl) ?_
      obtain ⟨h_8, hf⟩ := hf
      refine va_iald hx hb hG.1 hP 16 0 rfl rfl h_8 dX5_back_55 ?_
      refine lv_iadd hx hb dX5_back_56 ?_
      refine lv_iconst (v := 1) hx hb dX5_back_57 (by decide) ?_
      refine lv_isub hx hb dX5_back_58 ?_
      obtain ⟨h_9, hf⟩ := hf
      refine va_iald hx hb hG.1 hP 14 0 rfl rfl h_9 dX5_back_59 ?_
      refine lv_iload_n hx hb dX5_back_60 rfl (lv_at hl 1 rfl) ?_
      refine lv_icmp_eq (tgt := 70) hx hb dX5_back_61 (by decide) (fun c_10 => ?_) (fun c_10 => ?_)
      · have hf := hf.1 c_10
        refine lv_aload_n hx hb dX5_back_70 rfl (lv_at hl 0 rfl) ?_
        refine va_get (D := D) (ci := 5) (C := RX5) (T := TX5) (N := 22) hx hb hts in_X5_back_X5 hown hG.1 hP 0 rfl rfl 18 (by decide) (hts _ lk_X5_back_63) (fun _ h9 => h9) rfl dX5_back_71 ?_
        refine lv_iload_n hx hb dX5_back_74 rfl (lv_at hl 2 rfl) ?_
        refine lv_dup2_11 hx hb dX5_back_75 rfl rfl ?_
        obtain ⟨h_11, hf⟩ := hf
        refine va_iald hx hb hG.1 hP 16 0 rfl rfl h_11 dX5_back_76 ?_
        refine lv_iconst (v := 1) hx hb dX5_back_77 (by decide) ?_
        refine lv_isub hx hb dX5_back_78 ?_
        obtain ⟨h_12, hf⟩ := hf
        refine va_iast hx hb hG.1 hP hD hS 16 0 rfl rfl h_12 dX5_back_79 (fun H locs hP hD hS => ?_)
        have hP : va_P D vwCl (wM k a mm nn we la si it be pa su wo le pp qq ro lo lp lq rp (upd rq (x2.toNatClampNeg) ((rq x2.toNatClampNeg) - 1)) se no ne) H := hP
        have hD : va_D A (wM k a mm nn we la si it be pa su wo le pp qq ro lo lp lq rp (upd rq (x2.toNatClampNeg) ((rq x2.toNatClampNeg) - 1)) se no ne) := hD
        refine lv_aload_n hx hb dX5_back_80 rfl (lv_at hl 0 rfl) ?_
        refine va_get (D := D) (ci := 5) (C := RX5) (T := TX5) (N := 22) hx hb hts in_X5_back_X5 hown hG.1 hP 0 rfl rfl 17 (by decide) (hts _ lk_X5_back_60) (fun _ h9 => h9) rfl dX5_back_81 ?_
        refine lv_iload_n hx hb dX5_back_84 rfl (lv_at hl 2 rfl) ?_
        refine lv_dup2_11 hx hb dX5_back_85 rfl rfl ?_
        obtain ⟨h_13, hf⟩ := hf
        refine va_iald hx hb hG.1 hP 15 0 rfl rfl h_13 dX5_back_86 ?_
        refine lv_iconst (v := 1) hx hb dX5_back_87 (by decide) ?_
        refine lv_isub hx hb dX5_back_88 ?_
        obtain ⟨h_14, hf⟩ := hf
        refine va_iast hx hb hG.1 hP hD hS 15 0 rfl rfl h_14 dX5_back_89 (fun H locs hP hD hS => ?_)
        have hP : va_P D vwCl (wM k a mm nn we la si it be pa su wo le pp qq ro lo lp lq (upd rp (x2.toNatClampNeg) ((rp x2.toNatClampNeg) - 1)) (upd rq (x2.toNatClampNeg) ((rq x2.toNatClampNeg) - 1)) se no ne) H := hP
        have hD : va_D A (wM k a mm nn we la si it be pa su wo le pp qq ro lo lp lq (upd rp (x2.toNatClampNeg) ((rp x2.toNatClampNeg) - 1)) (upd rq (x2.toNatClampNeg) ((rq x2.toNatClampNeg) - 1)) se no ne) := hD
        refine lv_aload_n hx hb dX5_back_90 rfl (lv_at hl 0 rfl) ?_
        refine va_get (D := D) (ci := 5) (C := RX5) (T := TX5) (N := 22) hx hb hts in_X5_back_X5 hown hG.1 hP 0 rfl rfl 15 (by decide) (hts _ lk_X5_back_54) (fun _ h9 => h9) rfl dX5_back_91 ?_
        refine lv_bipush (v := 40) hx hb dX5_back_94 (by decide) ?_
        refine lv_iload_n hx hb dX5_back_96 rfl (lv_at hl 2 rfl) ?_
        refine lv_imul hx hb dX5_back_97 ?_
        refine lv_aload_n hx hb dX5_back_98 rfl (lv_at hl 0 rfl) ?_
        refine va_get (D := D) (ci := 5) (C := RX5) (T := TX5) (N := 22) hx hb hts in_X5_back_X5 hown hG.1 hP 0 rfl rfl 17 (by decide) (hts _ lk_X5_back_60) (fun _ h9 => h9) rfl dX5_back_99 ?_
        refine lv_iload_n hx hb dX5_back_102 rfl (lv_at hl 2 rfl) ?_
        obtain ⟨h_15, hf⟩ := hf
        refine va_iald hx hb hG.1 hP 15 0 rfl rfl h_15 dX5_back_103 ?_
        refine lv_iadd hx hb dX5_back_104 ?_
        obtain ⟨h_16, hf⟩ := hf
        refine va_iald hx hb hG.1 hP 13 0 rfl rfl h_16 dX5_back_105 ?_
        refine lv_istore_n (lv' := [(3, .int (lp ((40 * x2) + ((upd rp (x2.toNatClampNeg) ((rp x2.toNatClampNeg) - 1)) x2.toNatClampNeg)).toNatClampNeg)), (0, .ref (a 0)), (1, .int x1), (2, .int x2)]) hx hb dX5_back_106 rfl hl (by decide) rfl (fun ls hl => ?_)
        refine lv_iload_n hx hb dX5_back_107 rfl (lv_at hl 3 rfl) ?_
        refine lv_iconst (v := 1) hx hb dX5_back_108 (by decide) ?_
        refine lv_isub hx hb dX5_back_109 ?_
        refine lv_istore (lv' := [(4, .int (x2 - 1)), (3, .int (lp ((40 * x2) + ((upd rp (x2.toNatClampNeg) ((rp x2.toNatClampNeg) - 1)) x2.toNatClampNeg)).toNatClampNeg)), (0, .ref (a 0)), (1, .int x1), (2, .int x2)]) hx hb dX5_back_110 hl (by decide) rfl (fun ls hl => ?_)
        obtain ⟨n_25, hf⟩ := hf
        exact k_X5_back_112 C0 hG hk26 n_25 wo le lp (upd rp (x2.toNatClampNeg) ((rp x2.toNatClampNeg) - 1)) (upd rq (x2.toNatClampNeg) ((rq x2.toNatClampNeg) - 1)) se x1 (lp ((40 * x2) + ((upd rp (x2.toNatClampNeg) ((rp x2.toNatClampNeg) - 1)) x2.toNatClampNeg)).toNatClampNeg) (x2 - 1) _ _ _ hf hP hD hS (lv_sub hl [2, 3, 1, 0] rfl)
      · have hf := hf.2 c_10
        exact k_X5_back_64 C0 hG hk26 ih wo le lp rp rq se x1 x2 _ _ _ hf hP hD hS (lv_sub hl [0, 1, 2] rfl)
set_option maxHeartbeats 4000000 in
set_option maxRecDepth 100000 in
theorem k_X5_back_26 {p : Program} {l : Launch} {e : Env} {s : State} {m : MethodId} {args : Array Value} {below : List Frame} {meth : Method} {c : Code} {A : Nat → Prop} {D : va_G} {k : Nat → ClassId} {a : Nat → Nat} {mm : Int32} {nn : Int32} {we : Nat → Int32} {la : Nat → Int32} {si : Nat → Int32} {it : Nat → Int32} {be : Nat → Int32} {pa : Nat → Int32} {su : Nat → Int64} {pp : Nat → Int32} {qq : Nat → Int32} {ro : Nat → Int32} {lo : Nat → Int32} {lq : Nat → Int32} {no : Nat → Int64} {ne : Nat → Int64} (C0 : xM p s m args meth c cX5_back 7 RX5 (some .int) wsX5_back) (hG : xG D k s) {post : Int32 → (Nat → Int32) → Int32 → (Nat → Int32) → (Nat → Int32) → (Nat → Int32) → (Nat → Int32) → Prop} : ∀ (n : Nat) (wo : Nat → Int32) (le : Int32) (lp : Nat → Int32) (rp : Nat → Int32) (rq : Nat → Int32) (se : Nat → Int32) (x1 : Int32) (H : Heap) (locs : List Loc) (ls : Array Slot), p_X5_back_26 lq post n wo le lp rp rq se x1 → va_P D vwCl (wM k a mm nn we la si it be pa su wo le pp qq ro lo lp lq rp rq se no ne) H → va_D A (wM k a mm nn we la si it be pa su wo le pp qq ro lo lp lq rp rq se no ne) → va_S A s.heap H locs → lv_has ls 7 [(0, .ref (a 0)), (1, .int x1)] → W p l e ({ frames := 2, cells := 0, slots := 0, locals := 47 }) s m args below meth c H locs 0 0 (MQ below (va_Qi (fun (r : Int32) (u : (Nat → Int32) × Int32 × (Nat → Int32) × (Nat → Int32) × (Nat → Int32) × (Nat → Int32)) => post r u.1 u.2.1 u.2.2.1 u.2.2.2.1 u.2.2.2.2.1 u.2.2.2.2.2) (fun u t => va_P D vwCl (wM k a mm nn we la si it be pa su (u.1) (u.2.1) pp qq ro lo (u.2.2.1) lq (u.2.2.2.1) (u.2.2.2.2.1) (u.2.2.2.2.2) no ne) t.heap) A) args s 0 0 A) (F0 m 26 ls []) := by
  obtain ⟨hx, hb, hr, hts, hown, hlocks, hml⟩ := id C0
  intro n
  induction n with
  | zero =>
    intro wo le lp rp rq se x1 H locs ls hf
    exact False.elim hf
  | succ n ih =>
    intro wo le lp rp rq se x1 H locs ls hf hP hD hS hl
    unfold p_X5_back_26 at hf
    refine lv_iload_n hx hb dX5_back_26 rfl (lv_at hl 1 rfl) ?_
    refine lv_iconst (v := 1) hx hb dX5_back_27 (by decide) ?_
    refine lv_icmp_lt (tgt := 204) hx hb dX5_back_28 (by decide) (fun c_5 => ?_) (fun c_5 => ?_)
    · have hf := hf.1 c_5
      refine lv_aload_n hx hb dX5_back_204 rfl (lv_at hl 0 rfl) ?_
      refine va_get (D := D) (ci := 5) (C := RX5) (T := TX5) (N := 22) hx hb hts in_X5_back_X5 hown hG.1 hP 0 rfl rfl 10 (by decide) (hts _ lk_X5_back_110) (fun _ h9 => h9) rfl dX5_back_205 ?_
      exact W.iret (v := le) hx hb hr (fun t ht hW => ⟨⟨le, (wo, le, lp, rp, rq, se), rfl, hf, xHp ht hP⟩, hS.F ht⟩) hS.2.2 dX5_back_208 hlocks
    · have hf := hf.2 c_5
      refine lv_iconst (v := 0) hx hb dX5_back_31 (by decide) ?_
      refine lv_istore_n (lv' := [(2, .int 0), (0, .ref (a 0)), (1, .int x1)]) hx hb dX5_back_32 rfl hl (by decide) rfl (fun ls hl => ?_)
      obtain ⟨n_26, hf⟩ := hf
      exact k_X5_back_33 C0 hG ih n_26 wo le lp rp rq se x1 0 _ _ _ hf hP hD hS (lv_sub hl [1, 2, 0] rfl)
set_option maxHeartbeats 4000000 in
set_option maxRecDepth 100000 in
theorem c_X5_back {l : Launch} {D : va_G} {k : Nat → ClassId} (a : Nat → Nat) (mm : Int32) (nn : Int32) (we : Nat → Int32) (la : Nat → Int32) (si : Nat → Int32) (it : Nat → Int32) (be : Nat → Int32) (pa : Nat → Int32) (su : Nat → Int64) (wo : Nat → Int32) (le : Int32) (pp : Nat → Int32) (qq : Nat → Int32) (ro : Nat → Int32) (lo : Nat → Int32) (lp : Nat → Int32) (lq : Nat → Int32) (rp : Nat → Int32) (rq : Nat → Int32) (se : Nat → Int32) (no : Nat → Int64) (ne : Nat → Int64) {post : Int32 → (Nat → Int32) → Int32 → (Nat → Int32) → (Nat → Int32) → (Nat → Int32) → (Nat → Int32) → Prop} (hf : p_X5_back wo le lp lq rp rq se post) : ctI l yX5_back wsX5_back ({ frames := 2, cells := 0, slots := 0, locals := 47 }) D k [.ref (a 0)] (wM k a mm nn we la si it be pa su wo le pp qq ro lo lp lq rp rq se no ne) (fun u : (Nat → Int32) × Int32 × (Nat → Int32) × (Nat → Int32) × (Nat → Int32) × (Nat → Int32) => wM k a mm nn we la si it be pa su (u.1) (u.2.1) pp qq ro lo (u.2.2.1) lq (u.2.2.2.1) (u.2.2.2.2.1) (u.2.2.2.2.2) no ne) (fun (r : Int32) (u : (Nat → Int32) × Int32 × (Nat → Int32) × (Nat → Int32) × (Nat → Int32) × (Nat → Int32)) => post r u.1 u.2.1 u.2.2.1 u.2.2.2.1 u.2.2.2.2.1 u.2.2.2.2.2) := by
  refine Met.ofW (cc := cX5_back) (maxL := 7) (ret := (some .int)) (by decide) rfl ?_
  intro p e s m args below meth c s₁ B hml hv
  obtain ⟨rfl, hP, hG, hD0⟩ := hv
  have C0 : xM p s m ([.ref (a 0)] : List Value).toArray meth c cX5_back 7 RX5 (some .int) wsX5_back := ⟨B.exec, B.bytes, B.returns, atoms_spec (ws := wsX5_back) B.pre, findClass_of_methodNamed B.named, B.notSynchronized, hml⟩
  obtain ⟨hx, hb, hr, hts, hown, hlocks, hml⟩ := id C0
  have hD := xSelf hD0
  have hS : va_S (xIn (wM k a mm nn we la si it be pa su wo le pp qq ro lo lp lq rp rq se no ne)) s.heap s.heap [] := va_S.rf
  generalize xIn (wM k a mm nn we la si it be pa su wo le pp qq ro lo lp lq rp rq se no ne) = A at hD hS ⊢
  have hl := lv_entry ([.ref (a 0)]) (n := 7) (Nat.le_of_ble_eq_true rfl)
  rw [lg_entry_eq]
  generalize (lg_sl ([.ref (a 0)]) ++ List.replicate (7 - (lg_sl ([.ref (a 0)])).length) Slot.unset).toArray = ls at hl ⊢
  have hl : lv_has ls 7 [(0, .ref (a 0))] := hl
  unfold p_X5_back at hf
  refine lv_aload_n hx hb dX5_back_0 rfl (lv_at hl 0 rfl) ?_
  have hp : xPerm (wM k a mm nn we la si it be pa su wo le pp qq ro lo lp lq rp rq se no ne) ((wM k a mm nn we la si it be pa su wo le pp qq ro lo lp lq rp rq se no ne) ++ ([])) := xPermNil
  refine xCallI (w := wM k a mm nn we la si it be pa su wo le pp qq ro lo lp lq rp rq se no ne) (r := []) (va_runV (As := []) (rest := []) ⟨hx, hb, hml, hown, hts⟩ (c_X5_areTableaux a mm nn we la si it be pa su wo le pp qq ro lo lp lq rp rq se no ne hf) (cwV 0 hts gX5_back_X5_areTableaux rfl rfl rfl (by decide +kernel) ⟨Nat.le_of_ble_eq_true rfl, Nat.le_of_ble_eq_true rfl⟩) (xPreV hG hP hD hp (ci := 5) rfl (i := 0) rfl) rfl rfl hl.1 rfl (lv_room (Nat.le_of_ble_eq_true rfl)) dX5_back_1 ⟨Nat.zero_le _, Nat.zero_le _⟩) hP hD hS hp (fun _ => rfl) (fun r_2 se_1 H locs hf hP hD hS => ?_)
  have hP : va_P D vwCl (wM k a mm nn we la si it be pa su wo le pp qq ro lo lp lq rp rq se_1 no ne) H := xNilP hP
  have hD : va_D A (wM k a mm nn we la si it be pa su wo le pp qq ro lo lp lq rp rq se_1 no ne) := xNilD hD
  refine lv_if_ne (tgt := 10) hx hb dX5_back_4 (by decide) (fun c_3 => ?_) (fun c_3 => ?_)
  · have hf := hf.2 c_3
    refine lv_aload_n hx hb dX5_back_10 rfl (lv_at hl 0 rfl) ?_
    refine lv_aload_n hx hb dX5_back_11 rfl (lv_at hl 0 rfl) ?_
    refine va_get (D := D) (ci := 5) (C := RX5) (T := TX5) (N := 22) hx hb hts in_X5_back_X5 hown hG.1 hP 0 rfl rfl 17 (by decide) (hts _ lk_X5_back_60) (fun _ h9 => h9) rfl dX5_back_12 ?_
    have hp : xPerm (wM k a mm nn we la si it be pa su wo le pp qq ro lo lp lq rp rq se_1 no ne) (([((a 15, .inl (k 0, 9, .inl rp)) : Nat × va_E)]) ++ ((wM k a mm nn we la si it be pa su wo le pp qq ro lo lp lq rp rq se_1 no ne).eraseIdx 15)) := (xCut1 (i := 15) (rfl : (wM k a mm nn we la si it be pa su wo le pp qq ro lo lp lq rp rq se_1 no ne)[15]? = some ((a 15, .inl (k 0, 9, .inl rp)) : Nat × va_E)))
    refine xCallI (w := [((a 15, .inl (k 0, 9, .inl rp)) : Nat × va_E)]) (r := (wM k a mm nn we la si it be pa su wo le pp qq ro lo lp lq rp rq se_1 no ne).eraseIdx 15) (va_runS (As := [.ref (a 15)]) (rest := [.ref (a 0)]) ⟨hx, hb, hml, hown, hts⟩ (c_X5_total (a 15) rp hf) (va_cwS 1 hts gX5_back_X5_total rfl rfl rfl (by decide +kernel) ⟨Nat.le_of_ble_eq_true rfl, Nat.le_of_ble_eq_true rfl⟩) (xPreS hG hP hD hp) rfl rfl hl.1 rfl (lv_room (Nat.le_of_ble_eq_true rfl)) dX5_back_15 ⟨Nat.zero_le _, Nat.zero_le _⟩) hP hD hS hp (fun _ => rfl) (fun r_4 _ H locs hf hP hD hS => ?_)
    have hP : va_P D vwCl (wM k a mm nn we la si it be pa su wo le pp qq ro lo lp lq rp rq se_1 no ne) H := xP_perm (xCut1 (i := 15) (rfl : (wM k a mm nn we la si it be pa su wo le pp qq ro lo lp lq rp rq se_1 no ne)[15]? = some ((a 15, .inl (k 0, 9, .inl rp)) : Nat × va_E))).symm hP
    have hD : va_D A (wM k a mm nn we la si it be pa su wo le pp qq ro lo lp lq rp rq se_1 no ne) := xD_perm (xCut1 (i := 15) (rfl : (wM k a mm nn we la si it be pa su wo le pp qq ro lo lp lq rp rq se_1 no ne)[15]? = some ((a 15, .inl (k 0, 9, .inl rp)) : Nat × va_E))).symm hD
    refine va_put (D := D) (ci := 5) (v := .int r_4) (ty := .int) (C := RX5) (T := TX5) (N := 22) hx hb hts in_X5_back_X5 tyX5 tyX5_ok nmX5 hown hG.1 hP hD hS 0 rfl rfl 10 (by decide) (hts _ lk_X5_back_110) (fun _ h9 => h9) rfl (by decide +kernel) rfl rfl (Nat.le_of_ble_eq_true rfl) dX5_back_18 (fun H locs hP hD hS => ?_)
    have hP : va_P D vwCl (wM k a mm nn we la si it be pa su wo r_4 pp qq ro lo lp lq rp rq se_1 no ne) H := hP
    have hD : va_D A (wM k a mm nn we la si it be pa su wo r_4 pp qq ro lo lp lq rp rq se_1 no ne) := hD
    refine lv_aload_n hx hb dX5_back_21 rfl (lv_at hl 0 rfl) ?_
    refine va_get (D := D) (ci := 5) (C := RX5) (T := TX5) (N := 22) hx hb hts in_X5_back_X5 hown hG.1 hP 0 rfl rfl 10 (by decide) (hts _ lk_X5_back_110) (fun _ h9 => h9) rfl dX5_back_22 ?_
    refine lv_istore_n (lv' := [(1, .int r_4), (0, .ref (a 0))]) hx hb dX5_back_25 rfl hl (by decide) rfl (fun ls hl => ?_)
    obtain ⟨n_27, hf⟩ := hf
    exact k_X5_back_26 C0 hG n_27 wo r_4 lp rp rq se_1 r_4 _ _ _ hf hP hD hS (lv_sub hl [1, 0] rfl)
  · have hf := hf.1 c_3
    refine lv_bipush (v := (-2)) hx hb dX5_back_7 (by decide) ?_
    exact W.iret (v := (-2)) hx hb hr (fun t ht hW => ⟨⟨((-2) : Int32), (wo, le, lp, rp, rq, se_1), rfl, hf, xHp ht hP⟩, hS.F ht⟩) hS.2.2 dX5_back_9 hlocks

def p_X5_wordOf_85 (mm : Int32) (nn : Int32) (we : Nat → Int32) (post : Int32 → (Nat → Int32) → Int32 → Prop) (k64 : (Nat → Int32) → Int32 → Int32 → Prop) (k74 : (Nat → Int32) → Int32 → Int32 → Int32 → Prop) : Nat → (Nat → Int32) → Int32 → Int32 → Int32 → Int32 → Prop
  | 0, _, _, _, _, _ => False
  | n + 1, wo, le, x2, x3, x4 => (vp_in ((6 * x2) + x3) 36 ∧ (((we ((6 * x2) + x3).toNatClampNeg) ≤ x4 → k74 wo le x2 (x3 + 1)) ∧ (¬ (we ((6 * x2) + x3).toNatClampNeg) ≤ x4 → (vp_in le 40 ∧ p_X5_wordOf_85 mm nn we post k64 k74 n (upd wo (le.toNatClampNeg) (x3 + 1)) (le + 1) x2 x3 (x4 + 1)))))
def p_X5_wordOf_74 (mm : Int32) (nn : Int32) (we : Nat → Int32) (post : Int32 → (Nat → Int32) → Int32 → Prop) (k64 : (Nat → Int32) → Int32 → Int32 → Prop) : Nat → (Nat → Int32) → Int32 → Int32 → Int32 → Prop
  | 0, _, _, _, _ => False
  | n + 1, wo, le, x2, x3 => ((nn ≤ x3 → k64 wo le (x2 + 1)) ∧ (¬ nn ≤ x3 → (∃ n_8, p_X5_wordOf_85 mm nn we post k64 (fun wo le x2 x3 => p_X5_wordOf_74 mm nn we post k64 n wo le x2 x3) n_8 wo le x2 x3 0)))
def p_X5_wordOf_64 (mm : Int32) (nn : Int32) (we : Nat → Int32) (post : Int32 → (Nat → Int32) → Int32 → Prop) : Nat → (Nat → Int32) → Int32 → Int32 → Prop
  | 0, _, _, _ => False
  | n + 1, wo, le, x2 => ((mm ≤ x2 → post le wo le) ∧ (¬ mm ≤ x2 → (∃ n_9, p_X5_wordOf_74 mm nn we post (fun wo le x2 => p_X5_wordOf_64 mm nn we post n wo le x2) n_9 wo le x2 0)))
def p_X5_wordOf_14 (mm : Int32) (nn : Int32) (we : Nat → Int32) (post : Int32 → (Nat → Int32) → Int32 → Prop) (k4 : (Nat → Int32) → Int32 → Int32 → Int32 → Prop) : Nat → (Nat → Int32) → Int32 → Int32 → Int32 → Int32 → Prop
  | 0, _, _, _, _, _ => False
  | n + 1, wo, le, x1, x2, x3 => ((nn ≤ x3 → k4 wo le x1 (x2 + 1)) ∧ (¬ nn ≤ x3 → (vp_in ((6 * x2) + x3) 36 ∧ p_X5_wordOf_14 mm nn we post k4 n wo le (x1 + (we ((6 * x2) + x3).toNatClampNeg)) x2 (x3 + 1))))
def p_X5_wordOf_4 (mm : Int32) (nn : Int32) (we : Nat → Int32) (post : Int32 → (Nat → Int32) → Int32 → Prop) : Nat → (Nat → Int32) → Int32 → Int32 → Int32 → Prop
  | 0, _, _, _, _ => False
  | n + 1, wo, le, x1, x2 => ((mm ≤ x2 → ((x1 ≤ 40 → (∃ n_10, p_X5_wordOf_64 mm nn we post n_10 wo 0 0)) ∧ (¬ x1 ≤ 40 → post (-3) wo le))) ∧ (¬ mm ≤ x2 → (∃ n_13, p_X5_wordOf_14 mm nn we post (fun wo le x1 x2 => p_X5_wordOf_4 mm nn we post n wo le x1 x2) n_13 wo le x1 x2 0)))
def p_X5_wordOf (mm : Int32) (nn : Int32) (we : Nat → Int32) (wo : Nat → Int32) (le : Int32) (post : Int32 → (Nat → Int32) → Int32 → Prop) : Prop := (∃ n_14, p_X5_wordOf_4 mm nn we post n_14 wo le 0 0)
theorem in_X5_wordOf_X5 : ∀ w ∈ u_ws RX5 TX5 22, w ∈ wsX5_wordOf := by decide +kernel
theorem lk_X5_wordOf_110 : Cond.fieldLink RX5 110 "GrowingCornersModel" "letters" "I" ∈ wsX5_wordOf := by decide +kernel
theorem lk_X5_wordOf_13 : Cond.fieldLink RX5 13 "GrowingCornersModel" "n" "I" ∈ wsX5_wordOf := by decide +kernel
theorem lk_X5_wordOf_16 : Cond.fieldLink RX5 16 "GrowingCornersModel" "weights" "[I" ∈ wsX5_wordOf := by decide +kernel
theorem lk_X5_wordOf_39 : Cond.fieldLink RX5 39 "GrowingCornersModel" "word" "[I" ∈ wsX5_wordOf := by decide +kernel
theorem lk_X5_wordOf_7 : Cond.fieldLink RX5 7 "GrowingCornersModel" "m" "I" ∈ wsX5_wordOf := by decide +kernel
set_option maxHeartbeats 4000000 in
set_option maxRecDepth 100000 in
theorem k_X5_wordOf_85 {p : Program} {l : Launch} {e : Env} {s : State} {m : MethodId} {args : Array Value} {below : List Frame} {meth : Method} {c : Code} {A : Nat → Prop} {D : va_G} {k : Nat → ClassId} {a : Nat → Nat} {mm : Int32} {nn : Int32} {we : Nat → Int32} {la : Nat → Int32} {si : Nat → Int32} {it : Nat → Int32} {be : Nat → Int32} {pa : Nat → Int32} {su : Nat → Int64} {pp : Nat → Int32} {qq : Nat → Int32} {ro : Nat → Int32} {lo : Nat → Int32} {lp : Nat → Int32} {lq : Nat → Int32} {rp : Nat → Int32} {rq : Nat → Int32} {se : Nat → Int32} {no : Nat → Int64} {ne : Nat → Int64} (C0 : xM p s m args meth c cX5_wordOf 5 RX5 (some .int) wsX5_wordOf) (hG : xG D k s) {post : Int32 → (Nat → Int32) → Int32 → Prop} {k64 : (Nat → Int32) → Int32 → Int32 → Prop} (hk64 : ∀ (wo : Nat → Int32) (le : Int32) (x2 : Int32) (H : Heap) (locs : List Loc) (ls : Array Slot), k64 wo le x2 → va_P D vwCl (wM k a mm nn we la si it be pa su wo le pp qq ro lo lp lq rp rq se no ne) H → va_D A (wM k a mm nn we la si it be pa su wo le pp qq ro lo lp lq rp rq se no ne) → va_S A s.heap H locs → lv_has ls 5 [(0, .ref (a 0)), (2, .int x2)] → W p l e ({ frames := 0, cells := 0, slots := 0, locals := 0 }) s m args below meth c H locs 0 0 (MQ below (va_Qi (fun (r : Int32) (u : (Nat → Int32) × Int32) => post r u.1 u.2) (fun u t => va_P D vwCl (wM k a mm nn we la si it be pa su (u.1) (u.2) pp qq ro lo lp lq rp rq se no ne) t.heap) A) args s 0 0 A) (F0 m 64 ls [])) {k74 : (Nat → Int32) → Int32 → Int32 → Int32 → Prop} (hk74 : ∀ (wo : Nat → Int32) (le : Int32) (x2 : Int32) (x3 : Int32) (H : Heap) (locs : List Loc) (ls : Array Slot), k74 wo le x2 x3 → va_P D vwCl (wM k a mm nn we la si it be pa su wo le pp qq ro lo lp lq rp rq se no ne) H → va_D A (wM k a mm nn we la si it be pa su wo le pp qq ro lo lp lq rp rq se no ne) → va_S A s.heap H locs → lv_has ls 5 [(0, .ref (a 0)), (2, .int x2), (3, .int x3)] → W p l e ({ frames := 0, cells := 0, slots := 0, locals := 0 }) s m args below meth c H locs 0 0 (MQ below (va_Qi (fun (r : Int32) (u : (Nat → Int32) × Int32) => post r u.1 u.2) (fun u t => va_P D vwCl (wM k a mm nn we la si it be pa su (u.1) (u.2) pp qq ro lo lp lq rp rq se no ne) t.heap) A) args s 0 0 A) (F0 m 74 ls [])) : ∀ (n : Nat) (wo : Nat → Int32) (le : Int32) (x2 : Int32) (x3 : Int32) (x4 : Int32) (H : Heap) (locs : List Loc) (ls : Array Slot), p_X5_wordOf_85 mm nn we post k64 k74 n wo le x2 x3 x4 → va_P D vwCl (wM k a mm nn we la si it be pa su wo le pp qq ro lo lp lq rp rq se no ne) H → va_D A (wM k a mm nn we la si it be pa su wo le pp qq ro lo lp lq rp rq se no ne) → va_S A s.heap H locs → lv_has ls 5 [(0, .ref (a 0)), (2, .int x2), (3, .int x3), (4, .int x4)] → W p l e ({ frames := 0, cells := 0, slots := 0, locals := 0 }) s m args below meth c H locs 0 0 (MQ below (va_Qi (fun (r : Int32) (u : (Nat → Int32) × Int32) => post r u.1 u.2) (fun u t => va_P D vwCl (wM k a mm nn we la si it be pa su (u.1) (u.2) pp qq ro lo lp lq rp rq se no ne) t.heap) A) args s 0 0 A) (F0 m 85 ls []) := by
  obtain ⟨hx, hb, hr, hts, hown, hlocks, hml⟩ := id C0
  intro n
  induction n with
  | zero =>
    intro wo le x2 x3 x4 H locs ls hf
    exact False.elim hf
  | succ n ih =>
    intro wo le x2 x3 x4 H locs ls hf hP hD hS hl
    unfold p_X5_wordOf_85 at hf
    refine lv_iload hx hb dX5_wordOf_85 (lv_at hl 3 rfl) ?_
    refine lv_aload_n hx hb dX5_wordOf_87 rfl (lv_at hl 0 rfl) ?_
    refine va_get (D := D) (ci := 5) (C := RX5) (T := TX5) (N := 22) hx hb hts in_X5_wordOf_X5 hown hG.1 hP 0 rfl rfl 2 (by decide) (hts _ lk_X5_wordOf_16) (fun _ h9 => h9) rfl dX5_wordOf_88 ?_
    refine lv_bipush (v := 6) hx hb dX5_wordOf_91 (by decide) ?_
    refine lv_iload_n hx hb dX5_wordOf_93 rfl (lv_at hl 1 rfl) ?_
    refine lv_imul hx hb dX5_wordOf_94 ?_
    refine lv_iload_n hx hb dX5_wordOf_95 rfl (lv_at hl 2 rfl) ?_
    refine lv_iadd hx hb dX5_wordOf_96 ?_
    obtain ⟨h_5, hf⟩ := hf
    refine va_iald hx hb hG.1 hP 1 0 rfl rfl h_5 dX5_wordOf_97 ?_
    refine lv_icmp_ge (tgt := 129) hx hb dX5_wordOf_98 (by decide) (fun c_6 => ?_) (fun c_6 => ?_)
    · have hf := hf.1 c_6
      refine lv_iinc (v := x3 + 1) (lv' := [(3, .int (x3 + 1)), (0, .ref (a 0)), (2, .int x2), (4, .int x4)]) hx hb dX5_wordOf_129 hl (k := 2) rfl rfl (by decide) rfl (fun ls hl => ?_)
      refine lv_goto (tgt := 74) hx hb dX5_wordOf_132 (by decide) ?_
      exact hk74 wo le x2 (x3 + 1) _ _ _ hf hP hD hS (lv_sub hl [1, 2, 0] rfl)
    · have hf := hf.2 c_6
      refine lv_aload_n hx hb dX5_wordOf_101 rfl (lv_at hl 0 rfl) ?_
      refine va_get (D := D) (ci := 5) (C := RX5) (T := TX5) (N := 22) hx hb hts in_X5_wordOf_X5 hown hG.1 hP 0 rfl rfl 9 (by decide) (hts _ lk_X5_wordOf_39) (fun _ h9 => h9) rfl dX5_wordOf_102 ?_
      refine lv_aload_n hx hb dX5_wordOf_105 rfl (lv_at hl 0 rfl) ?_
      refine va_get (D := D) (ci := 5) (C := RX5) (T := TX5) (N := 22) hx hb hts in_X5_wordOf_X5 hown hG.1 hP 0 rfl rfl 10 (by decide) (hts _ lk_X5_wordOf_110) (fun _ h9 => h9) rfl dX5_wordOf_106 ?_
      refine lv_iload_n hx hb dX5_wordOf_109 rfl (lv_at hl 2 rfl) ?_
      refine lv_iconst (v := 1) hx hb dX5_wordOf_110 (by decide) ?_
      refine lv_iadd hx hb dX5_wordOf_111 ?_
      obtain ⟨h_7, hf⟩ := hf
      refine va_iast hx hb hG.1 hP hD hS 8 0 rfl rfl h_7 dX5_wordOf_112 (fun H locs hP hD hS => ?_)
      have hP : va_P D vwCl (wM k a mm nn we la si it be pa su (upd wo (le.toNatClampNeg) (x3 + 1)) le pp qq ro lo lp lq rp rq se no ne) H := hP
      have hD : va_D A (wM k a mm nn we la si it be pa su (upd wo (le.toNatClampNeg) (x3 + 1)) le pp qq ro lo lp lq rp rq se no ne) := hD
      refine lv_aload_n hx hb dX5_wordOf_113 rfl (lv_at hl 0 rfl) ?_
      refine lv_dup hx hb dX5_wordOf_114 rfl ?_
      refine va_get (D := D) (ci := 5) (C := RX5) (T := TX5) (N := 22) hx hb hts in_X5_wordOf_X5 hown hG.1 hP 0 rfl rfl 10 (by decide) (hts _ lk_X5_wordOf_110) (fun _ h9 => h9) rfl dX5_wordOf_115 ?_
      refine lv_iconst (v := 1) hx hb dX5_wordOf_118 (by decide) ?_
      refine lv_iadd hx hb dX5_wordOf_119 ?_
      refine va_put (D := D) (ci := 5) (v := .int (le + 1)) (ty := .int) (C := RX5) (T := TX5) (N := 22) hx hb hts in_X5_wordOf_X5 tyX5 tyX5_ok nmX5 hown hG.1 hP hD hS 0 rfl rfl 10 (by decide) (hts _ lk_X5_wordOf_110) (fun _ h9 => h9) rfl (by decide +kernel) rfl rfl (Nat.le_of_ble_eq_true rfl) dX5_wordOf_120 (fun H locs hP hD hS => ?_)
      have hP : va_P D vwCl (wM k a mm nn we la si it be pa su (upd wo (le.toNatClampNeg) (x3 + 1)) (le + 1) pp qq ro lo lp lq rp rq se no ne) H := hP
      have hD : va_D A (wM k a mm nn we la si it be pa su (upd wo (le.toNatClampNeg) (x3 + 1)) (le + 1) pp qq ro lo lp lq rp rq se no ne) := hD
      refine lv_iinc (v := x4 + 1) (lv' := [(4, .int (x4 + 1)), (0, .ref (a 0)), (2, .int x2), (3, .int x3)]) hx hb dX5_wordOf_123 hl (k := 3) rfl rfl (by decide) rfl (fun ls hl => ?_)
      refine lv_goto (tgt := 85) hx hb dX5_wordOf_126 (by decide) ?_
      exact ih (upd wo (le.toNatClampNeg) (x3 + 1)) (le + 1) x2 x3 (x4 + 1) _ _ _ hf hP hD hS (lv_sub hl [1, 2, 3, 0] rfl)
set_option maxHeartbeats 4000000 in
set_option maxRecDepth 100000 in
theorem k_X5_wordOf_74 {p : Program} {l : Launch} {e : Env} {s : State} {m : MethodId} {args : Array Value} {below : List Frame} {meth : Method} {c : Code} {A : Nat → Prop} {D : va_G} {k : Nat → ClassId} {a : Nat → Nat} {mm : Int32} {nn : Int32} {we : Nat → Int32} {la : Nat → Int32} {si : Nat → Int32} {it : Nat → Int32} {be : Nat → Int32} {pa : Nat → Int32} {su : Nat → Int64} {pp : Nat → Int32} {qq : Nat → Int32} {ro : Nat → Int32} {lo : Nat → Int32} {lp : Nat → Int32} {lq : Nat → Int32} {rp : Nat → Int32} {rq : Nat → Int32} {se : Nat → Int32} {no : Nat → Int64} {ne : Nat → Int64} (C0 : xM p s m args meth c cX5_wordOf 5 RX5 (some .int) wsX5_wordOf) (hG : xG D k s) {post : Int32 → (Nat → Int32) → Int32 → Prop} {k64 : (Nat → Int32) → Int32 → Int32 → Prop} (hk64 : ∀ (wo : Nat → Int32) (le : Int32) (x2 : Int32) (H : Heap) (locs : List Loc) (ls : Array Slot), k64 wo le x2 → va_P D vwCl (wM k a mm nn we la si it be pa su wo le pp qq ro lo lp lq rp rq se no ne) H → va_D A (wM k a mm nn we la si it be pa su wo le pp qq ro lo lp lq rp rq se no ne) → va_S A s.heap H locs → lv_has ls 5 [(0, .ref (a 0)), (2, .int x2)] → W p l e ({ frames := 0, cells := 0, slots := 0, locals := 0 }) s m args below meth c H locs 0 0 (MQ below (va_Qi (fun (r : Int32) (u : (Nat → Int32) × Int32) => post r u.1 u.2) (fun u t => va_P D vwCl (wM k a mm nn we la si it be pa su (u.1) (u.2) pp qq ro lo lp lq rp rq se no ne) t.heap) A) args s 0 0 A) (F0 m 64 ls [])) : ∀ (n : Nat) (wo : Nat → Int32) (le : Int32) (x2 : Int32) (x3 : Int32) (H : Heap) (locs : List Loc) (ls : Array Slot), p_X5_wordOf_74 mm nn we post k64 n wo le x2 x3 → va_P D vwCl (wM k a mm nn we la si it be pa su wo le pp qq ro lo lp lq rp rq se no ne) H → va_D A (wM k a mm nn we la si it be pa su wo le pp qq ro lo lp lq rp rq se no ne) → va_S A s.heap H locs → lv_has ls 5 [(0, .ref (a 0)), (2, .int x2), (3, .int x3)] → W p l e ({ frames := 0, cells := 0, slots := 0, locals := 0 }) s m args below meth c H locs 0 0 (MQ below (va_Qi (fun (r : Int32) (u : (Nat → Int32) × Int32) => post r u.1 u.2) (fun u t => va_P D vwCl (wM k a mm nn we la si it be pa su (u.1) (u.2) pp qq ro lo lp lq rp rq se no ne) t.heap) A) args s 0 0 A) (F0 m 74 ls []) := by
  obtain ⟨hx, hb, hr, hts, hown, hlocks, hml⟩ := id C0
  intro n
  induction n with
  | zero =>
    intro wo le x2 x3 H locs ls hf
    exact False.elim hf
  | succ n ih =>
    intro wo le x2 x3 H locs ls hf hP hD hS hl
    unfold p_X5_wordOf_74 at hf
    refine lv_iload_n hx hb dX5_wordOf_74 rfl (lv_at hl 2 rfl) ?_
    refine lv_aload_n hx hb dX5_wordOf_75 rfl (lv_at hl 0 rfl) ?_
    refine va_get (D := D) (ci := 5) (C := RX5) (T := TX5) (N := 22) hx hb hts in_X5_wordOf_X5 hown hG.1 hP 0 rfl rfl 1 (by decide) (hts _ lk_X5_wordOf_13) (fun _ h9 => h9) rfl dX5_wordOf_76 ?_
    refine lv_icmp_ge (tgt := 135) hx hb dX5_wordOf_79 (by decide) (fun c_4 => ?_) (fun c_4 => ?_)
    · have hf := hf.1 c_4
      refine lv_iinc (v := x2 + 1) (lv' := [(2, .int (x2 + 1)), (0, .ref (a 0)), (3, .int x3)]) hx hb dX5_wordOf_135 hl (k := 1) rfl rfl (by decide) rfl (fun ls hl => ?_)
      refine lv_goto (tgt := 64) hx hb dX5_wordOf_138 (by decide) ?_
      exact hk64 wo le (x2 + 1) _ _ _ hf hP hD hS (lv_sub hl [1, 0] rfl)
    · have hf := hf.2 c_4
      refine lv_iconst (v := 0) hx hb dX5_wordOf_82 (by decide) ?_
      refine lv_istore (lv' := [(4, .int 0), (0, .ref (a 0)), (2, .int x2), (3, .int x3)]) hx hb dX5_wordOf_83 hl (by decide) rfl (fun ls hl => ?_)
      obtain ⟨n_8, hf⟩ := hf
      exact k_X5_wordOf_85 C0 hG hk64 ih n_8 wo le x2 x3 0 _ _ _ hf hP hD hS (lv_sub hl [1, 2, 3, 0] rfl)
set_option maxHeartbeats 4000000 in
set_option maxRecDepth 100000 in
theorem k_X5_wordOf_64 {p : Program} {l : Launch} {e : Env} {s : State} {m : MethodId} {args : Array Value} {below : List Frame} {meth : Method} {c : Code} {A : Nat → Prop} {D : va_G} {k : Nat → ClassId} {a : Nat → Nat} {mm : Int32} {nn : Int32} {we : Nat → Int32} {la : Nat → Int32} {si : Nat → Int32} {it : Nat → Int32} {be : Nat → Int32} {pa : Nat → Int32} {su : Nat → Int64} {pp : Nat → Int32} {qq : Nat → Int32} {ro : Nat → Int32} {lo : Nat → Int32} {lp : Nat → Int32} {lq : Nat → Int32} {rp : Nat → Int32} {rq : Nat → Int32} {se : Nat → Int32} {no : Nat → Int64} {ne : Nat → Int64} (C0 : xM p s m args meth c cX5_wordOf 5 RX5 (some .int) wsX5_wordOf) (hG : xG D k s) {post : Int32 → (Nat → Int32) → Int32 → Prop} : ∀ (n : Nat) (wo : Nat → Int32) (le : Int32) (x2 : Int32) (H : Heap) (locs : List Loc) (ls : Array Slot), p_X5_wordOf_64 mm nn we post n wo le x2 → va_P D vwCl (wM k a mm nn we la si it be pa su wo le pp qq ro lo lp lq rp rq se no ne) H → va_D A (wM k a mm nn we la si it be pa su wo le pp qq ro lo lp lq rp rq se no ne) → va_S A s.heap H locs → lv_has ls 5 [(0, .ref (a 0)), (2, .int x2)] → W p l e ({ frames := 0, cells := 0, slots := 0, locals := 0 }) s m args below meth c H locs 0 0 (MQ below (va_Qi (fun (r : Int32) (u : (Nat → Int32) × Int32) => post r u.1 u.2) (fun u t => va_P D vwCl (wM k a mm nn we la si it be pa su (u.1) (u.2) pp qq ro lo lp lq rp rq se no ne) t.heap) A) args s 0 0 A) (F0 m 64 ls []) := by
  obtain ⟨hx, hb, hr, hts, hown, hlocks, hml⟩ := id C0
  intro n
  induction n with
  | zero =>
    intro wo le x2 H locs ls hf
    exact False.elim hf
  | succ n ih =>
    intro wo le x2 H locs ls hf hP hD hS hl
    unfold p_X5_wordOf_64 at hf
    refine lv_iload_n hx hb dX5_wordOf_64 rfl (lv_at hl 1 rfl) ?_
    refine lv_aload_n hx hb dX5_wordOf_65 rfl (lv_at hl 0 rfl) ?_
    refine va_get (D := D) (ci := 5) (C := RX5) (T := TX5) (N := 22) hx hb hts in_X5_wordOf_X5 hown hG.1 hP 0 rfl rfl 0 (by decide) (hts _ lk_X5_wordOf_7) (fun _ h9 => h9) rfl dX5_wordOf_66 ?_
    refine lv_icmp_ge (tgt := 141) hx hb dX5_wordOf_69 (by decide) (fun c_3 => ?_) (fun c_3 => ?_)
    · have hf := hf.1 c_3
      refine lv_aload_n hx hb dX5_wordOf_141 rfl (lv_at hl 0 rfl) ?_
      refine va_get (D := D) (ci := 5) (C := RX5) (T := TX5) (N := 22) hx hb hts in_X5_wordOf_X5 hown hG.1 hP 0 rfl rfl 10 (by decide) (hts _ lk_X5_wordOf_110) (fun _ h9 => h9) rfl dX5_wordOf_142 ?_
      exact W.iret (v := le) hx hb hr (fun t ht hW => ⟨⟨le, (wo, le), rfl, hf, xHp ht hP⟩, hS.F ht⟩) hS.2.2 dX5_wordOf_145 hlocks
    · have hf := hf.2 c_3
      refine lv_iconst (v := 0) hx hb dX5_wordOf_72 (by decide) ?_
      refine lv_istore_n (lv' := [(3, .int 0), (0, .ref (a 0)), (2, .int x2)]) hx hb dX5_wordOf_73 rfl hl (by decide) rfl (fun ls hl => ?_)
      obtain ⟨n_9, hf⟩ := hf
      exact k_X5_wordOf_74 C0 hG ih n_9 wo le x2 0 _ _ _ hf hP hD hS (lv_sub hl [1, 2, 0] rfl)
set_option maxHeartbeats 4000000 in
set_option maxRecDepth 100000 in
theorem k_X5_wordOf_14 {p : Program} {l : Launch} {e : Env} {s : State} {m : MethodId} {args : Array Value} {below : List Frame} {meth : Method} {c : Code} {A : Nat → Prop} {D : va_G} {k : Nat → ClassId} {a : Nat → Nat} {mm : Int32} {nn : Int32} {we : Nat → Int32} {la : Nat → Int32} {si : Nat → Int32} {it : Nat → Int32} {be : Nat → Int32} {pa : Nat → Int32} {su : Nat → Int64} {pp : Nat → Int32} {qq : Nat → Int32} {ro : Nat → Int32} {lo : Nat → Int32} {lp : Nat → Int32} {lq : Nat → Int32} {rp : Nat → Int32} {rq : Nat → Int32} {se : Nat → Int32} {no : Nat → Int64} {ne : Nat → Int64} (C0 : xM p s m args meth c cX5_wordOf 5 RX5 (some .int) wsX5_wordOf) (hG : xG D k s) {post : Int32 → (Nat → Int32) → Int32 → Prop} {k4 : (Nat → Int32) → Int32 → Int32 → Int32 → Prop} (hk4 : ∀ (wo : Nat → Int32) (le : Int32) (x1 : Int32) (x2 : Int32) (H : Heap) (locs : List Loc) (ls : Array Slot), k4 wo le x1 x2 → va_P D vwCl (wM k a mm nn we la si it be pa su wo le pp qq ro lo lp lq rp rq se no ne) H → va_D A (wM k a mm nn we la si it be pa su wo le pp qq ro lo lp lq rp rq se no ne) → va_S A s.heap H locs → lv_has ls 5 [(0, .ref (a 0)), (1, .int x1), (2, .int x2)] → W p l e ({ frames := 0, cells := 0, slots := 0, locals := 0 }) s m args below meth c H locs 0 0 (MQ below (va_Qi (fun (r : Int32) (u : (Nat → Int32) × Int32) => post r u.1 u.2) (fun u t => va_P D vwCl (wM k a mm nn we la si it be pa su (u.1) (u.2) pp qq ro lo lp lq rp rq se no ne) t.heap) A) args s 0 0 A) (F0 m 4 ls [])) : ∀ (n : Nat) (wo : Nat → Int32) (le : Int32) (x1 : Int32) (x2 : Int32) (x3 : Int32) (H : Heap) (locs : List Loc) (ls : Array Slot), p_X5_wordOf_14 mm nn we post k4 n wo le x1 x2 x3 → va_P D vwCl (wM k a mm nn we la si it be pa su wo le pp qq ro lo lp lq rp rq se no ne) H → va_D A (wM k a mm nn we la si it be pa su wo le pp qq ro lo lp lq rp rq se no ne) → va_S A s.heap H locs → lv_has ls 5 [(0, .ref (a 0)), (1, .int x1), (2, .int x2), (3, .int x3)] → W p l e ({ frames := 0, cells := 0, slots := 0, locals := 0 }) s m args below meth c H locs 0 0 (MQ below (va_Qi (fun (r : Int32) (u : (Nat → Int32) × Int32) => post r u.1 u.2) (fun u t => va_P D vwCl (wM k a mm nn we la si it be pa su (u.1) (u.2) pp qq ro lo lp lq rp rq se no ne) t.heap) A) args s 0 0 A) (F0 m 14 ls []) := by
  obtain ⟨hx, hb, hr, hts, hown, hlocks, hml⟩ := id C0
  intro n
  induction n with
  | zero =>
    intro wo le x1 x2 x3 H locs ls hf
    exact False.elim hf
  | succ n ih =>
    intro wo le x1 x2 x3 H locs ls hf hP hD hS hl
    unfold p_X5_wordOf_14 at hf
    refine lv_iload_n hx hb dX5_wordOf_14 rfl (lv_at hl 3 rfl) ?_
    refine lv_aload_n hx hb dX5_wordOf_15 rfl (lv_at hl 0 rfl) ?_
    refine va_get (D := D) (ci := 5) (C := RX5) (T := TX5) (N := 22) hx hb hts in_X5_wordOf_X5 hown hG.1 hP 0 rfl rfl 1 (by decide) (hts _ lk_X5_wordOf_13) (fun _ h9 => h9) rfl dX5_wordOf_16 ?_
    refine lv_icmp_ge (tgt := 42) hx hb dX5_wordOf_19 (by decide) (fun c_11 => ?_) (fun c_11 => ?_)
    · have hf := hf.1 c_11
      refine lv_iinc (v := x2 + 1) (lv' := [(2, .int (x2 + 1)), (0, .ref (a 0)), (1, .int x1), (3, .int x3)]) hx hb dX5_wordOf_42 hl (k := 2) rfl rfl (by decide) rfl (fun ls hl => ?_)
      refine lv_goto (tgt := 4) hx hb dX5_wordOf_45 (by decide) ?_
      exact hk4 wo le x1 (x2 + 1) _ _ _ hf hP hD hS (lv_sub hl [1, 2, 0] rfl)
    · have hf := hf.2 c_11
      refine lv_iload_n hx hb dX5_wordOf_22 rfl (lv_at hl 1 rfl) ?_
      refine lv_aload_n hx hb dX5_wordOf_23 rfl (lv_at hl 0 rfl) ?_
      refine va_get (D := D) (ci := 5) (C := RX5) (T := TX5) (N := 22) hx hb hts in_X5_wordOf_X5 hown hG.1 hP 0 rfl rfl 2 (by decide) (hts _ lk_X5_wordOf_16) (fun _ h9 => h9) rfl dX5_wordOf_24 ?_
      refine lv_bipush (v := 6) hx hb dX5_wordOf_27 (by decide) ?_
      refine lv_iload_n hx hb dX5_wordOf_29 rfl (lv_at hl 2 rfl) ?_
      refine lv_imul hx hb dX5_wordOf_30 ?_
      refine lv_iload_n hx hb dX5_wordOf_31 rfl (lv_at hl 3 rfl) ?_
      refine lv_iadd hx hb dX5_wordOf_32 ?_
      obtain ⟨h_12, hf⟩ := hf
      refine va_iald hx hb hG.1 hP 1 0 rfl rfl h_12 dX5_wordOf_33 ?_
      refine lv_iadd hx hb dX5_wordOf_34 ?_
      refine lv_istore_n (lv' := [(1, .int (x1 + (we ((6 * x2) + x3).toNatClampNeg))), (0, .ref (a 0)), (2, .int x2), (3, .int x3)]) hx hb dX5_wordOf_35 rfl hl (by decide) rfl (fun ls hl => ?_)
      refine lv_iinc (v := x3 + 1) (lv' := [(3, .int (x3 + 1)), (1, .int (x1 + (we ((6 * x2) + x3).toNatClampNeg))), (0, .ref (a 0)), (2, .int x2)]) hx hb dX5_wordOf_36 hl (k := 3) rfl rfl (by decide) rfl (fun ls hl => ?_)
      refine lv_goto (tgt := 14) hx hb dX5_wordOf_39 (by decide) ?_
      exact ih wo le (x1 + (we ((6 * x2) + x3).toNatClampNeg)) x2 (x3 + 1) _ _ _ hf hP hD hS (lv_sub hl [2, 1, 3, 0] rfl)
set_option maxHeartbeats 4000000 in
set_option maxRecDepth 100000 in
theorem k_X5_wordOf_4 {p : Program} {l : Launch} {e : Env} {s : State} {m : MethodId} {args : Array Value} {below : List Frame} {meth : Method} {c : Code} {A : Nat → Prop} {D : va_G} {k : Nat → ClassId} {a : Nat → Nat} {mm : Int32} {nn : Int32} {we : Nat → Int32} {la : Nat → Int32} {si : Nat → Int32} {it : Nat → Int32} {be : Nat → Int32} {pa : Nat → Int32} {su : Nat → Int64} {pp : Nat → Int32} {qq : Nat → Int32} {ro : Nat → Int32} {lo : Nat → Int32} {lp : Nat → Int32} {lq : Nat → Int32} {rp : Nat → Int32} {rq : Nat → Int32} {se : Nat → Int32} {no : Nat → Int64} {ne : Nat → Int64} (C0 : xM p s m args meth c cX5_wordOf 5 RX5 (some .int) wsX5_wordOf) (hG : xG D k s) {post : Int32 → (Nat → Int32) → Int32 → Prop} : ∀ (n : Nat) (wo : Nat → Int32) (le : Int32) (x1 : Int32) (x2 : Int32) (H : Heap) (locs : List Loc) (ls : Array Slot), p_X5_wordOf_4 mm nn we post n wo le x1 x2 → va_P D vwCl (wM k a mm nn we la si it be pa su wo le pp qq ro lo lp lq rp rq se no ne) H → va_D A (wM k a mm nn we la si it be pa su wo le pp qq ro lo lp lq rp rq se no ne) → va_S A s.heap H locs → lv_has ls 5 [(0, .ref (a 0)), (1, .int x1), (2, .int x2)] → W p l e ({ frames := 0, cells := 0, slots := 0, locals := 0 }) s m args below meth c H locs 0 0 (MQ below (va_Qi (fun (r : Int32) (u : (Nat → Int32) × Int32) => post r u.1 u.2) (fun u t => va_P D vwCl (wM k a mm nn we la si it be pa su (u.1) (u.2) pp qq ro lo lp lq rp rq se no ne) t.heap) A) args s 0 0 A) (F0 m 4 ls []) := by
  obtain ⟨hx, hb, hr, hts, hown, hlocks, hml⟩ := id C0
  intro n
  induction n with
  | zero =>
    intro wo le x1 x2 H locs ls hf
    exact False.elim hf
  | succ n ih =>
    intro wo le x1 x2 H locs ls hf hP hD hS hl
    unfold p_X5_wordOf_4 at hf
    refine lv_iload_n hx hb dX5_wordOf_4 rfl (lv_at hl 2 rfl) ?_
    refine lv_aload_n hx hb dX5_wordOf_5 rfl (lv_at hl 0 rfl) ?_
    refine va_get (D := D) (ci := 5) (C := RX5) (T := TX5) (N := 22) hx hb hts in_X5_wordOf_X5 hown hG.1 hP 0 rfl rfl 0 (by decide) (hts _ lk_X5_wordOf_7) (fun _ h9 => h9) rfl dX5_wordOf_6 ?_
    refine lv_icmp_ge (tgt := 48) hx hb dX5_wordOf_9 (by decide) (fun c_1 => ?_) (fun c_1 => ?_)
    · have hf := hf.1 c_1
      refine lv_iload_n hx hb dX5_wordOf_48 rfl (lv_at hl 1 rfl) ?_
      refine lv_bipush (v := 40) hx hb dX5_wordOf_49 (by decide) ?_
      refine lv_icmp_le (tgt := 57) hx hb dX5_wordOf_51 (by decide) (fun c_2 => ?_) (fun c_2 => ?_)
      · have hf := hf.1 c_2
        refine lv_aload_n hx hb dX5_wordOf_57 rfl (lv_at hl 0 rfl) ?_
        refine lv_iconst (v := 0) hx hb dX5_wordOf_58 (by decide) ?_
        refine va_put (D := D) (ci := 5) (v := .int 0) (ty := .int) (C := RX5) (T := TX5) (N := 22) hx hb hts in_X5_wordOf_X5 tyX5 tyX5_ok nmX5 hown hG.1 hP hD hS 0 rfl rfl 10 (by decide) (hts _ lk_X5_wordOf_110) (fun _ h9 => h9) rfl (by decide +kernel) rfl rfl (Nat.le_of_ble_eq_true rfl) dX5_wordOf_59 (fun H locs hP hD hS => ?_)
        have hP : va_P D vwCl (wM k a mm nn we la si it be pa su wo 0 pp qq ro lo lp lq rp rq se no ne) H := hP
        have hD : va_D A (wM k a mm nn we la si it be pa su wo 0 pp qq ro lo lp lq rp rq se no ne) := hD
        refine lv_iconst (v := 0) hx hb dX5_wordOf_62 (by decide) ?_
        refine lv_istore_n (lv' := [(2, .int 0), (0, .ref (a 0)), (1, .int x1)]) hx hb dX5_wordOf_63 rfl hl (by decide) rfl (fun ls hl => ?_)
        obtain ⟨n_10, hf⟩ := hf
        exact k_X5_wordOf_64 C0 hG n_10 wo 0 0 _ _ _ hf hP hD hS (lv_sub hl [1, 0] rfl)
      · have hf := hf.2 c_2
        refine lv_bipush (v := (-3)) hx hb dX5_wordOf_54 (by decide) ?_
        exact W.iret (v := (-3)) hx hb hr (fun t ht hW => ⟨⟨((-3) : Int32), (wo, le), rfl, hf, xHp ht hP⟩, hS.F ht⟩) hS.2.2 dX5_wordOf_56 hlocks
    · have hf := hf.2 c_1
      refine lv_iconst (v := 0) hx hb dX5_wordOf_12 (by decide) ?_
      refine lv_istore_n (lv' := [(3, .int 0), (0, .ref (a 0)), (1, .int x1), (2, .int x2)]) hx hb dX5_wordOf_13 rfl hl (by decide) rfl (fun ls hl => ?_)
      obtain ⟨n_13, hf⟩ := hf
      exact k_X5_wordOf_14 C0 hG ih n_13 wo le x1 x2 0 _ _ _ hf hP hD hS (lv_sub hl [1, 2, 3, 0] rfl)
set_option maxHeartbeats 4000000 in
set_option maxRecDepth 100000 in
theorem c_X5_wordOf {l : Launch} {D : va_G} {k : Nat → ClassId} (a : Nat → Nat) (mm : Int32) (nn : Int32) (we : Nat → Int32) (la : Nat → Int32) (si : Nat → Int32) (it : Nat → Int32) (be : Nat → Int32) (pa : Nat → Int32) (su : Nat → Int64) (wo : Nat → Int32) (le : Int32) (pp : Nat → Int32) (qq : Nat → Int32) (ro : Nat → Int32) (lo : Nat → Int32) (lp : Nat → Int32) (lq : Nat → Int32) (rp : Nat → Int32) (rq : Nat → Int32) (se : Nat → Int32) (no : Nat → Int64) (ne : Nat → Int64) {post : Int32 → (Nat → Int32) → Int32 → Prop} (hf : p_X5_wordOf mm nn we wo le post) : ctI l yX5_wordOf wsX5_wordOf ({ frames := 0, cells := 0, slots := 0, locals := 0 }) D k [.ref (a 0)] (wM k a mm nn we la si it be pa su wo le pp qq ro lo lp lq rp rq se no ne) (fun u : (Nat → Int32) × Int32 => wM k a mm nn we la si it be pa su (u.1) (u.2) pp qq ro lo lp lq rp rq se no ne) (fun (r : Int32) (u : (Nat → Int32) × Int32) => post r u.1 u.2) := by
  refine Met.ofW (cc := cX5_wordOf) (maxL := 5) (ret := (some .int)) (by decide) rfl ?_
  intro p e s m args below meth c s₁ B hml hv
  obtain ⟨rfl, hP, hG, hD0⟩ := hv
  have C0 : xM p s m ([.ref (a 0)] : List Value).toArray meth c cX5_wordOf 5 RX5 (some .int) wsX5_wordOf := ⟨B.exec, B.bytes, B.returns, atoms_spec (ws := wsX5_wordOf) B.pre, findClass_of_methodNamed B.named, B.notSynchronized, hml⟩
  obtain ⟨hx, hb, hr, hts, hown, hlocks, hml⟩ := id C0
  have hD := xSelf hD0
  have hS : va_S (xIn (wM k a mm nn we la si it be pa su wo le pp qq ro lo lp lq rp rq se no ne)) s.heap s.heap [] := va_S.rf
  generalize xIn (wM k a mm nn we la si it be pa su wo le pp qq ro lo lp lq rp rq se no ne) = A at hD hS ⊢
  have hl := lv_entry ([.ref (a 0)]) (n := 5) (Nat.le_of_ble_eq_true rfl)
  rw [lg_entry_eq]
  generalize (lg_sl ([.ref (a 0)]) ++ List.replicate (5 - (lg_sl ([.ref (a 0)])).length) Slot.unset).toArray = ls at hl ⊢
  have hl : lv_has ls 5 [(0, .ref (a 0))] := hl
  unfold p_X5_wordOf at hf
  refine lv_iconst (v := 0) hx hb dX5_wordOf_0 (by decide) ?_
  refine lv_istore_n (lv' := [(1, .int 0), (0, .ref (a 0))]) hx hb dX5_wordOf_1 rfl hl (by decide) rfl (fun ls hl => ?_)
  refine lv_iconst (v := 0) hx hb dX5_wordOf_2 (by decide) ?_
  refine lv_istore_n (lv' := [(2, .int 0), (1, .int 0), (0, .ref (a 0))]) hx hb dX5_wordOf_3 rfl hl (by decide) rfl (fun ls hl => ?_)
  obtain ⟨n_14, hf⟩ := hf
  exact k_X5_wordOf_4 C0 hG n_14 wo le 0 0 _ _ _ hf hP hD hS (lv_sub hl [2, 1, 0] rfl)

def p_X5_power (x0 : Int32) (post : Int32 → Prop) : Prop := ((x0 = 0 → post 1) ∧ (¬ x0 = 0 → ((x0 = 1 → post 9) ∧ (¬ x0 = 1 → post 81))))
set_option maxHeartbeats 4000000 in
set_option maxRecDepth 100000 in
theorem c_X5_power {l : Launch} {D : va_G} {k : Nat → ClassId} (x0 : Int32) {post : Int32 → Prop} (hf : p_X5_power x0 post) : ctI l yX5_power wsX5_power ({ frames := 0, cells := 0, slots := 0, locals := 0 }) D k [.int x0] ([]) (fun u : Unit => []) (fun (r : Int32) (u : Unit) => post r) := by
  refine Met.ofW (cc := cX5_power) (maxL := 1) (ret := (some .int)) (by decide) rfl ?_
  intro p e s m args below meth c s₁ B hml hv
  obtain ⟨rfl, hP, hG, hD0⟩ := hv
  have C0 : xM p s m ([.int x0] : List Value).toArray meth c cX5_power 1 RX5 (some .int) wsX5_power := ⟨B.exec, B.bytes, B.returns, atoms_spec (ws := wsX5_power) B.pre, findClass_of_methodNamed B.named, B.notSynchronized, hml⟩
  obtain ⟨hx, hb, hr, hts, hown, hlocks, hml⟩ := id C0
  have hD := xSelf hD0
  have hS : va_S (xIn ([])) s.heap s.heap [] := va_S.rf
  generalize xIn ([]) = A at hD hS ⊢
  have hl := lv_entry ([.int x0]) (n := 1) (Nat.le_of_ble_eq_true rfl)
  rw [lg_entry_eq]
  generalize (lg_sl ([.int x0]) ++ List.replicate (1 - (lg_sl ([.int x0])).length) Slot.unset).toArray = ls at hl ⊢
  have hl : lv_has ls 1 [(0, .int x0)] := hl
  unfold p_X5_power at hf
  refine lv_iload_n hx hb dX5_power_0 rfl (lv_at hl 0 rfl) ?_
  refine lv_if_ne (tgt := 8) hx hb dX5_power_1 (by decide) (fun c_1 => ?_) (fun c_1 => ?_)
  · have hf := hf.2 c_1
    refine lv_iload_n hx hb dX5_power_8 rfl (lv_at hl 0 rfl) ?_
    refine lv_iconst (v := 1) hx hb dX5_power_9 (by decide) ?_
    refine lv_icmp_ne (tgt := 18) hx hb dX5_power_10 (by decide) (fun c_2 => ?_) (fun c_2 => ?_)
    · have hf := hf.2 c_2
      refine lv_bipush (v := 81) hx hb dX5_power_18 (by decide) ?_
      exact W.iret (v := 81) hx hb hr (fun t ht hW => ⟨⟨(81 : Int32), (), rfl, hf, xHp ht hP⟩, hS.F ht⟩) hS.2.2 dX5_power_20 hlocks
    · have hf := hf.1 c_2
      refine lv_bipush (v := 9) hx hb dX5_power_13 (by decide) ?_
      refine lv_goto (tgt := 20) hx hb dX5_power_15 (by decide) ?_
      exact W.iret (v := 9) hx hb hr (fun t ht hW => ⟨⟨(9 : Int32), (), rfl, hf, xHp ht hP⟩, hS.F ht⟩) hS.2.2 dX5_power_20 hlocks
  · have hf := hf.1 c_1
    refine lv_iconst (v := 1) hx hb dX5_power_4 (by decide) ?_
    refine lv_goto (tgt := 20) hx hb dX5_power_5 (by decide) ?_
    exact W.iret (v := 1) hx hb hr (fun t ht hW => ⟨⟨(1 : Int32), (), rfl, hf, xHp ht hP⟩, hS.F ht⟩) hS.2.2 dX5_power_20 hlocks

def p_X5_addPlace_139 (x1 : Int32) (x2 : Int32) (post : (Nat → Int64) → (Nat → Int64) → Prop) : Nat → (Nat → Int64) → (Nat → Int64) → Int32 → Prop
  | 0, _, _, _ => False
  | n + 1, no, ne, x3 => ((729 ≤ x3 → post no ne) ∧ (¬ 729 ≤ x3 → (vp_in x3 729 ∧ (vp_in x3 729 ∧ p_X5_addPlace_139 x1 x2 post n (vp_updL no (x3.toNatClampNeg) (ne x3.toNatClampNeg)) ne (x3 + 1)))))
def p_X5_addPlace_131 (x1 : Int32) (x2 : Int32) (post : (Nat → Int64) → (Nat → Int64) → Prop) (k24 : (Nat → Int64) → (Nat → Int64) → Int32 → Prop) (no : Nat → Int64) (ne : Nat → Int64) (x3 : Int32) : Prop := k24 no ne (x3 + 1)
def p_X5_addPlace_87 (x1 : Int32) (x2 : Int32) (post : (Nat → Int64) → (Nat → Int64) → Prop) (k24 : (Nat → Int64) → (Nat → Int64) → Int32 → Prop) : Nat → (Nat → Int64) → (Nat → Int64) → Int32 → Int32 → Int32 → Int32 → Prop
  | 0, _, _, _, _, _, _ => False
  | n + 1, no, ne, x3, x4, x6, x7 => ((x2 < x7 → p_X5_addPlace_131 x1 x2 post k24 no ne x3) ∧ (¬ x2 < x7 → p_X5_power x1 (fun r_18 => (vp_in (x3 + ((x7 - x4) * r_18)) 729 ∧ (vp_in x3 729 ∧ (vp_in (x3 + ((x7 - x4) * r_18)) 729 ∧ p_X5_addPlace_87 x1 x2 post k24 n no (vp_updL ne ((x3 + ((x7 - x4) * r_18)).toNatClampNeg) ((ne (x3 + ((x7 - x4) * r_18)).toNatClampNeg) + ((no x3.toNatClampNeg) >>> ((x7 - x6).toInt64 &&& 63)))) x3 x4 x6 (x7 + 1)))))))
def p_X5_addPlace_72 (x1 : Int32) (x2 : Int32) (post : (Nat → Int64) → (Nat → Int64) → Prop) (k24 : (Nat → Int64) → (Nat → Int64) → Int32 → Prop) (no : Nat → Int64) (ne : Nat → Int64) (x3 : Int32) (x4 : Int32) (s0 : Int32) : Prop := p_X5_greater x4 s0 (fun r_16 => (∃ n_22, p_X5_addPlace_87 x1 x2 post k24 n_22 no ne x3 x4 r_16 r_16))
def p_X5_addPlace_24 (x1 : Int32) (x2 : Int32) (post : (Nat → Int64) → (Nat → Int64) → Prop) : Nat → (Nat → Int64) → (Nat → Int64) → Int32 → Prop
  | 0, _, _, _ => False
  | n + 1, no, ne, x3 => ((729 ≤ x3 → (∃ n_6, p_X5_addPlace_139 x1 x2 post n_6 no ne 0)) ∧ (¬ 729 ≤ x3 → (vp_in x3 729 ∧ (((lg_cmp (no x3.toNatClampNeg) 0) ≤ 0 → p_X5_addPlace_131 x1 x2 post (fun no ne x3 => p_X5_addPlace_24 x1 x2 post n no ne x3) no ne x3) ∧ (¬ (lg_cmp (no x3.toNatClampNeg) 0) ≤ 0 → p_X5_power x1 (fun r_9 => (¬ r_9 = 0 ∧ (¬ (9 : Int32) = 0 ∧ ((x1 = 0 → p_X5_addPlace_72 x1 x2 post (fun no ne x3 => p_X5_addPlace_24 x1 x2 post n no ne x3) no ne x3 ((x3 / r_9) - (x3 / r_9) / 9 * 9) 0) ∧ (¬ x1 = 0 → p_X5_power (x1 - 1) (fun r_13 => (¬ r_13 = 0 ∧ (¬ (9 : Int32) = 0 ∧ p_X5_addPlace_72 x1 x2 post (fun no ne x3 => p_X5_addPlace_24 x1 x2 post n no ne x3) no ne x3 ((x3 / r_9) - (x3 / r_9) / 9 * 9) ((x3 / r_13) - (x3 / r_13) / 9 * 9))))))))))))))
def p_X5_addPlace_2 (x1 : Int32) (x2 : Int32) (post : (Nat → Int64) → (Nat → Int64) → Prop) : Nat → (Nat → Int64) → (Nat → Int64) → Int32 → Prop
  | 0, _, _, _ => False
  | n + 1, no, ne, x3 => ((729 ≤ x3 → (∃ n_23, p_X5_addPlace_24 x1 x2 post n_23 no ne 0)) ∧ (¬ 729 ≤ x3 → (vp_in x3 729 ∧ p_X5_addPlace_2 x1 x2 post n no (vp_updL ne (x3.toNatClampNeg) 0) (x3 + 1))))
def p_X5_addPlace (no : Nat → Int64) (ne : Nat → Int64) (x1 : Int32) (x2 : Int32) (post : (Nat → Int64) → (Nat → Int64) → Prop) : Prop := (∃ n_25, p_X5_addPlace_2 x1 x2 post n_25 no ne 0)
theorem in_X5_addPlace_X5 : ∀ w ∈ u_ws RX5 TX5 22, w ∈ wsX5_addPlace := by decide +kernel
theorem lk_X5_addPlace_70 : Cond.fieldLink RX5 70 "GrowingCornersModel" "now" "[J" ∈ wsX5_addPlace := by decide +kernel
theorem lk_X5_addPlace_73 : Cond.fieldLink RX5 73 "GrowingCornersModel" "next" "[J" ∈ wsX5_addPlace := by decide +kernel
set_option maxHeartbeats 4000000 in
set_option maxRecDepth 100000 in
theorem k_X5_addPlace_139 {p : Program} {l : Launch} {e : Env} {s : State} {m : MethodId} {args : Array Value} {below : List Frame} {meth : Method} {c : Code} {A : Nat → Prop} {D : va_G} {k : Nat → ClassId} {a : Nat → Nat} {mm : Int32} {nn : Int32} {we : Nat → Int32} {la : Nat → Int32} {si : Nat → Int32} {it : Nat → Int32} {be : Nat → Int32} {pa : Nat → Int32} {su : Nat → Int64} {wo : Nat → Int32} {le : Int32} {pp : Nat → Int32} {qq : Nat → Int32} {ro : Nat → Int32} {lo : Nat → Int32} {lp : Nat → Int32} {lq : Nat → Int32} {rp : Nat → Int32} {rq : Nat → Int32} {se : Nat → Int32} {x1 : Int32} {x2 : Int32} (C0 : xM p s m args meth c cX5_addPlace 8 RX5 none wsX5_addPlace) (hG : xG D k s) {post : (Nat → Int64) → (Nat → Int64) → Prop} : ∀ (n : Nat) (no : Nat → Int64) (ne : Nat → Int64) (x3 : Int32) (H : Heap) (locs : List Loc) (ls : Array Slot), p_X5_addPlace_139 x1 x2 post n no ne x3 → va_P D vwCl (wM k a mm nn we la si it be pa su wo le pp qq ro lo lp lq rp rq se no ne) H → va_D A (wM k a mm nn we la si it be pa su wo le pp qq ro lo lp lq rp rq se no ne) → va_S A s.heap H locs → lv_has ls 8 [(0, .ref (a 0)), (3, .int x3)] → W p l e ({ frames := 1, cells := 0, slots := 0, locals := 21 }) s m args below meth c H locs 0 0 (MQ below (va_Qv (fun (u : (Nat → Int64) × (Nat → Int64)) => post u.1 u.2) (fun u t => va_P D vwCl (wM k a mm nn we la si it be pa su wo le pp qq ro lo lp lq rp rq se (u.1) (u.2)) t.heap) A) args s 0 0 A) (F0 m 139 ls []) := by
  obtain ⟨hx, hb, hr, hts, hown, hlocks, hml⟩ := id C0
  intro n
  induction n with
  | zero =>
    intro no ne x3 H locs ls hf
    exact False.elim hf
  | succ n ih =>
    intro no ne x3 H locs ls hf hP hD hS hl
    unfold p_X5_addPlace_139 at hf
    refine lv_iload_n hx hb dX5_addPlace_139 rfl (lv_at hl 1 rfl) ?_
    refine lv_sipush (v := 729) hx hb dX5_addPlace_140 (by decide) ?_
    refine lv_icmp_ge (tgt := 164) hx hb dX5_addPlace_143 (by decide) (fun c_3 => ?_) (fun c_3 => ?_)
    · have hf := hf.1 c_3
      exact W.vret hx hb hr (fun t ht hW => ⟨⟨(no, ne), rfl, hf, xHp ht hP⟩, hS.F ht⟩) hS.2.2 dX5_addPlace_164 hlocks
    · have hf := hf.2 c_3
      refine lv_aload_n hx hb dX5_addPlace_146 rfl (lv_at hl 0 rfl) ?_
      refine va_get (D := D) (ci := 5) (C := RX5) (T := TX5) (N := 22) hx hb hts in_X5_addPlace_X5 hown hG.1 hP 0 rfl rfl 20 (by decide) (hts _ lk_X5_addPlace_70) (fun _ h9 => h9) rfl dX5_addPlace_147 ?_
      refine lv_iload_n hx hb dX5_addPlace_150 rfl (lv_at hl 1 rfl) ?_
      refine lv_aload_n hx hb dX5_addPlace_151 rfl (lv_at hl 0 rfl) ?_
      refine va_get (D := D) (ci := 5) (C := RX5) (T := TX5) (N := 22) hx hb hts in_X5_addPlace_X5 hown hG.1 hP 0 rfl rfl 21 (by decide) (hts _ lk_X5_addPlace_73) (fun _ h9 => h9) rfl dX5_addPlace_152 ?_
      refine lv_iload_n hx hb dX5_addPlace_155 rfl (lv_at hl 1 rfl) ?_
      obtain ⟨h_4, hf⟩ := hf
      refine va_lald hx hb hG.1 hP 19 1 rfl rfl h_4 dX5_addPlace_156 ?_
      obtain ⟨h_5, hf⟩ := hf
      refine va_last hx hb hG.1 hP hD hS 18 1 rfl rfl h_5 dX5_addPlace_157 (fun H locs hP hD hS => ?_)
      have hP : va_P D vwCl (wM k a mm nn we la si it be pa su wo le pp qq ro lo lp lq rp rq se (vp_updL no (x3.toNatClampNeg) (ne x3.toNatClampNeg)) ne) H := hP
      have hD : va_D A (wM k a mm nn we la si it be pa su wo le pp qq ro lo lp lq rp rq se (vp_updL no (x3.toNatClampNeg) (ne x3.toNatClampNeg)) ne) := hD
      refine lv_iinc (v := x3 + 1) (lv' := [(3, .int (x3 + 1)), (0, .ref (a 0))]) hx hb dX5_addPlace_158 hl (k := 1) rfl rfl (by decide) rfl (fun ls hl => ?_)
      refine lv_goto (tgt := 139) hx hb dX5_addPlace_161 (by decide) ?_
      exact ih (vp_updL no (x3.toNatClampNeg) (ne x3.toNatClampNeg)) ne (x3 + 1) _ _ _ hf hP hD hS (lv_sub hl [1, 0] rfl)
set_option maxHeartbeats 4000000 in
set_option maxRecDepth 100000 in
theorem k_X5_addPlace_131 {p : Program} {l : Launch} {e : Env} {s : State} {m : MethodId} {args : Array Value} {below : List Frame} {meth : Method} {c : Code} {A : Nat → Prop} {D : va_G} {k : Nat → ClassId} {a : Nat → Nat} {mm : Int32} {nn : Int32} {we : Nat → Int32} {la : Nat → Int32} {si : Nat → Int32} {it : Nat → Int32} {be : Nat → Int32} {pa : Nat → Int32} {su : Nat → Int64} {wo : Nat → Int32} {le : Int32} {pp : Nat → Int32} {qq : Nat → Int32} {ro : Nat → Int32} {lo : Nat → Int32} {lp : Nat → Int32} {lq : Nat → Int32} {rp : Nat → Int32} {rq : Nat → Int32} {se : Nat → Int32} {x1 : Int32} {x2 : Int32} (C0 : xM p s m args meth c cX5_addPlace 8 RX5 none wsX5_addPlace) (hG : xG D k s) {post : (Nat → Int64) → (Nat → Int64) → Prop} {k24 : (Nat → Int64) → (Nat → Int64) → Int32 → Prop} (hk24 : ∀ (no : Nat → Int64) (ne : Nat → Int64) (x3 : Int32) (H : Heap) (locs : List Loc) (ls : Array Slot), k24 no ne x3 → va_P D vwCl (wM k a mm nn we la si it be pa su wo le pp qq ro lo lp lq rp rq se no ne) H → va_D A (wM k a mm nn we la si it be pa su wo le pp qq ro lo lp lq rp rq se no ne) → va_S A s.heap H locs → lv_has ls 8 [(0, .ref (a 0)), (1, .int x1), (2, .int x2), (3, .int x3)] → W p l e ({ frames := 1, cells := 0, slots := 0, locals := 21 }) s m args below meth c H locs 0 0 (MQ below (va_Qv (fun (u : (Nat → Int64) × (Nat → Int64)) => post u.1 u.2) (fun u t => va_P D vwCl (wM k a mm nn we la si it be pa su wo le pp qq ro lo lp lq rp rq se (u.1) (u.2)) t.heap) A) args s 0 0 A) (F0 m 24 ls [])) : ∀ (no : Nat → Int64) (ne : Nat → Int64) (x3 : Int32) (H : Heap) (locs : List Loc) (ls : Array Slot), p_X5_addPlace_131 x1 x2 post k24 no ne x3 → va_P D vwCl (wM k a mm nn we la si it be pa su wo le pp qq ro lo lp lq rp rq se no ne) H → va_D A (wM k a mm nn we la si it be pa su wo le pp qq ro lo lp lq rp rq se no ne) → va_S A s.heap H locs → lv_has ls 8 [(0, .ref (a 0)), (1, .int x1), (2, .int x2), (3, .int x3)] → W p l e ({ frames := 1, cells := 0, slots := 0, locals := 21 }) s m args below meth c H locs 0 0 (MQ below (va_Qv (fun (u : (Nat → Int64) × (Nat → Int64)) => post u.1 u.2) (fun u t => va_P D vwCl (wM k a mm nn we la si it be pa su wo le pp qq ro lo lp lq rp rq se (u.1) (u.2)) t.heap) A) args s 0 0 A) (F0 m 131 ls []) := by
  obtain ⟨hx, hb, hr, hts, hown, hlocks, hml⟩ := id C0
  intro no ne x3 H locs ls hf hP hD hS hl
  unfold p_X5_addPlace_131 at hf
  refine lv_iinc (v := x3 + 1) (lv' := [(3, .int (x3 + 1)), (0, .ref (a 0)), (1, .int x1), (2, .int x2)]) hx hb dX5_addPlace_131 hl (k := 3) rfl rfl (by decide) rfl (fun ls hl => ?_)
  refine lv_goto (tgt := 24) hx hb dX5_addPlace_134 (by decide) ?_
  exact hk24 no ne (x3 + 1) _ _ _ hf hP hD hS (lv_sub hl [1, 2, 3, 0] rfl)
set_option maxHeartbeats 4000000 in
set_option maxRecDepth 100000 in
theorem k_X5_addPlace_87 {p : Program} {l : Launch} {e : Env} {s : State} {m : MethodId} {args : Array Value} {below : List Frame} {meth : Method} {c : Code} {A : Nat → Prop} {D : va_G} {k : Nat → ClassId} {a : Nat → Nat} {mm : Int32} {nn : Int32} {we : Nat → Int32} {la : Nat → Int32} {si : Nat → Int32} {it : Nat → Int32} {be : Nat → Int32} {pa : Nat → Int32} {su : Nat → Int64} {wo : Nat → Int32} {le : Int32} {pp : Nat → Int32} {qq : Nat → Int32} {ro : Nat → Int32} {lo : Nat → Int32} {lp : Nat → Int32} {lq : Nat → Int32} {rp : Nat → Int32} {rq : Nat → Int32} {se : Nat → Int32} {x1 : Int32} {x2 : Int32} (C0 : xM p s m args meth c cX5_addPlace 8 RX5 none wsX5_addPlace) (hG : xG D k s) {post : (Nat → Int64) → (Nat → Int64) → Prop} {k24 : (Nat → Int64) → (Nat → Int64) → Int32 → Prop} (hk24 : ∀ (no : Nat → Int64) (ne : Nat → Int64) (x3 : Int32) (H : Heap) (locs : List Loc) (ls : Array Slot), k24 no ne x3 → va_P D vwCl (wM k a mm nn we la si it be pa su wo le pp qq ro lo lp lq rp rq se no ne) H → va_D A (wM k a mm nn we la si it be pa su wo le pp qq ro lo lp lq rp rq se no ne) → va_S A s.heap H locs → lv_has ls 8 [(0, .ref (a 0)), (1, .int x1), (2, .int x2), (3, .int x3)] → W p l e ({ frames := 1, cells := 0, slots := 0, locals := 21 }) s m args below meth c H locs 0 0 (MQ below (va_Qv (fun (u : (Nat → Int64) × (Nat → Int64)) => post u.1 u.2) (fun u t => va_P D vwCl (wM k a mm nn we la si it be pa su wo le pp qq ro lo lp lq rp rq se (u.1) (u.2)) t.heap) A) args s 0 0 A) (F0 m 24 ls [])) : ∀ (n : Nat) (no : Nat → Int64) (ne : Nat → Int64) (x3 : Int32) (x4 : Int32) (x6 : Int32) (x7 : Int32) (H : Heap) (locs : List Loc) (ls : Array Slot), p_X5_addPlace_87 x1 x2 post k24 n no ne x3 x4 x6 x7 → va_P D vwCl (wM k a mm nn we la si it be pa su wo le pp qq ro lo lp lq rp rq se no ne) H → va_D A (wM k a mm nn we la si it be pa su wo le pp qq ro lo lp lq rp rq se no ne) → va_S A s.heap H locs → lv_has ls 8 [(0, .ref (a 0)), (1, .int x1), (2, .int x2), (3, .int x3), (4, .int x4), (6, .int x6), (7, .int x7)] → W p l e ({ frames := 1, cells := 0, slots := 0, locals := 21 }) s m args below meth c H locs 0 0 (MQ below (va_Qv (fun (u : (Nat → Int64) × (Nat → Int64)) => post u.1 u.2) (fun u t => va_P D vwCl (wM k a mm nn we la si it be pa su wo le pp qq ro lo lp lq rp rq se (u.1) (u.2)) t.heap) A) args s 0 0 A) (F0 m 87 ls []) := by
  obtain ⟨hx, hb, hr, hts, hown, hlocks, hml⟩ := id C0
  intro n
  induction n with
  | zero =>
    intro no ne x3 x4 x6 x7 H locs ls hf
    exact False.elim hf
  | succ n ih =>
    intro no ne x3 x4 x6 x7 H locs ls hf hP hD hS hl
    unfold p_X5_addPlace_87 at hf
    refine lv_iload hx hb dX5_addPlace_87 (lv_at hl 6 rfl) ?_
    refine lv_iload_n hx hb dX5_addPlace_89 rfl (lv_at hl 2 rfl) ?_
    refine lv_icmp_gt (tgt := 131) hx hb dX5_addPlace_90 (by decide) (fun c_17 => ?_) (fun c_17 => ?_)
    · have hf := hf.1 c_17
      exact k_X5_addPlace_131 C0 hG hk24 no ne x3 _ _ _ hf hP hD hS (lv_sub hl [0, 1, 2, 3] rfl)
    · have hf := hf.2 c_17
      refine lv_aload_n hx hb dX5_addPlace_93 rfl (lv_at hl 0 rfl) ?_
      refine va_get (D := D) (ci := 5) (C := RX5) (T := TX5) (N := 22) hx hb hts in_X5_addPlace_X5 hown hG.1 hP 0 rfl rfl 21 (by decide) (hts _ lk_X5_addPlace_73) (fun _ h9 => h9) rfl dX5_addPlace_94 ?_
      refine lv_iload_n hx hb dX5_addPlace_97 rfl (lv_at hl 3 rfl) ?_
      refine lv_iload hx hb dX5_addPlace_98 (lv_at hl 6 rfl) ?_
      refine lv_iload hx hb dX5_addPlace_100 (lv_at hl 4 rfl) ?_
      refine lv_isub hx hb dX5_addPlace_102 ?_
      refine lv_iload_n hx hb dX5_addPlace_103 rfl (lv_at hl 1 rfl) ?_
      have hp : xPerm (wM k a mm nn we la si it be pa su wo le pp qq ro lo lp lq rp rq se no ne) (([]) ++ (wM k a mm nn we la si it be pa su wo le pp qq ro lo lp lq rp rq se no ne)) := (List.Perm.refl _)
      refine xCallI (w := []) (r := wM k a mm nn we la si it be pa su wo le pp qq ro lo lp lq rp rq se no ne) (va_runS (As := [.int x1]) (rest := [.int (x7 - x4), .int x3, .ref (a 19)]) ⟨hx, hb, hml, hown, hts⟩ (c_X5_power x1 hf) (va_cwS 1 hts gX5_addPlace_X5_power rfl rfl rfl (by decide +kernel) ⟨Nat.le_of_ble_eq_true rfl, Nat.le_of_ble_eq_true rfl⟩) (xPreS hG hP hD hp) rfl rfl hl.1 rfl (lv_room (Nat.le_of_ble_eq_true rfl)) dX5_addPlace_104 ⟨Nat.zero_le _, Nat.zero_le _⟩) hP hD hS hp (fun _ => rfl) (fun r_18 _ H locs hf hP hD hS => ?_)
      have hP : va_P D vwCl (wM k a mm nn we la si it be pa su wo le pp qq ro lo lp lq rp rq se no ne) H := hP
      have hD : va_D A (wM k a mm nn we la si it be pa su wo le pp qq ro lo lp lq rp rq se no ne) := hD
      refine lv_imul hx hb dX5_addPlace_107 ?_
      refine lv_iadd hx hb dX5_addPlace_108 ?_
      refine lv_dup2_11 hx hb dX5_addPlace_109 rfl rfl ?_
      obtain ⟨h_19, hf⟩ := hf
      refine va_lald hx hb hG.1 hP 19 1 rfl rfl h_19 dX5_addPlace_110 ?_
      refine lv_aload_n hx hb dX5_addPlace_111 rfl (lv_at hl 0 rfl) ?_
      refine va_get (D := D) (ci := 5) (C := RX5) (T := TX5) (N := 22) hx hb hts in_X5_addPlace_X5 hown hG.1 hP 0 rfl rfl 20 (by decide) (hts _ lk_X5_addPlace_70) (fun _ h9 => h9) rfl dX5_addPlace_112 ?_
      refine lv_iload_n hx hb dX5_addPlace_115 rfl (lv_at hl 3 rfl) ?_
      obtain ⟨h_20, hf⟩ := hf
      refine va_lald hx hb hG.1 hP 18 1 rfl rfl h_20 dX5_addPlace_116 ?_
      refine lv_iload hx hb dX5_addPlace_117 (lv_at hl 6 rfl) ?_
      refine lv_iload hx hb dX5_addPlace_119 (lv_at hl 5 rfl) ?_
      refine lv_isub hx hb dX5_addPlace_121 ?_
      refine lv_lshr (v := (no x3.toNatClampNeg) >>> ((x7 - x6).toInt64 &&& 63)) hx hb dX5_addPlace_122 rfl ?_
      refine lv_ladd hx hb dX5_addPlace_123 ?_
      obtain ⟨h_21, hf⟩ := hf
      refine va_last hx hb hG.1 hP hD hS 19 1 rfl rfl h_21 dX5_addPlace_124 (fun H locs hP hD hS => ?_)
      have hP : va_P D vwCl (wM k a mm nn we la si it be pa su wo le pp qq ro lo lp lq rp rq se no (vp_updL ne ((x3 + ((x7 - x4) * r_18)).toNatClampNeg) ((ne (x3 + ((x7 - x4) * r_18)).toNatClampNeg) + ((no x3.toNatClampNeg) >>> ((x7 - x6).toInt64 &&& 63))))) H := hP
      have hD : va_D A (wM k a mm nn we la si it be pa su wo le pp qq ro lo lp lq rp rq se no (vp_updL ne ((x3 + ((x7 - x4) * r_18)).toNatClampNeg) ((ne (x3 + ((x7 - x4) * r_18)).toNatClampNeg) + ((no x3.toNatClampNeg) >>> ((x7 - x6).toInt64 &&& 63))))) := hD
      refine lv_iinc (v := x7 + 1) (lv' := [(7, .int (x7 + 1)), (0, .ref (a 0)), (1, .int x1), (2, .int x2), (3, .int x3), (4, .int x4), (6, .int x6)]) hx hb dX5_addPlace_125 hl (k := 6) rfl rfl (by decide) rfl (fun ls hl => ?_)
      refine lv_goto (tgt := 87) hx hb dX5_addPlace_128 (by decide) ?_
      exact ih no (vp_updL ne ((x3 + ((x7 - x4) * r_18)).toNatClampNeg) ((ne (x3 + ((x7 - x4) * r_18)).toNatClampNeg) + ((no x3.toNatClampNeg) >>> ((x7 - x6).toInt64 &&& 63)))) x3 x4 x6 (x7 + 1) _ _ _ hf hP hD hS (lv_sub hl [1, 2, 3, 4, 5, 6, 0] rfl)
set_option maxHeartbeats 4000000 in
set_option maxRecDepth 100000 in
theorem k_X5_addPlace_72 {p : Program} {l : Launch} {e : Env} {s : State} {m : MethodId} {args : Array Value} {below : List Frame} {meth : Method} {c : Code} {A : Nat → Prop} {D : va_G} {k : Nat → ClassId} {a : Nat → Nat} {mm : Int32} {nn : Int32} {we : Nat → Int32} {la : Nat → Int32} {si : Nat → Int32} {it : Nat → Int32} {be : Nat → Int32} {pa : Nat → Int32} {su : Nat → Int64} {wo : Nat → Int32} {le : Int32} {pp : Nat → Int32} {qq : Nat → Int32} {ro : Nat → Int32} {lo : Nat → Int32} {lp : Nat → Int32} {lq : Nat → Int32} {rp : Nat → Int32} {rq : Nat → Int32} {se : Nat → Int32} {x1 : Int32} {x2 : Int32} (C0 : xM p s m args meth c cX5_addPlace 8 RX5 none wsX5_addPlace) (hG : xG D k s) {post : (Nat → Int64) → (Nat → Int64) → Prop} {k24 : (Nat → Int64) → (Nat → Int64) → Int32 → Prop} (hk24 : ∀ (no : Nat → Int64) (ne : Nat → Int64) (x3 : Int32) (H : Heap) (locs : List Loc) (ls : Array Slot), k24 no ne x3 → va_P D vwCl (wM k a mm nn we la si it be pa su wo le pp qq ro lo lp lq rp rq se no ne) H → va_D A (wM k a mm nn we la si it be pa su wo le pp qq ro lo lp lq rp rq se no ne) → va_S A s.heap H locs → lv_has ls 8 [(0, .ref (a 0)), (1, .int x1), (2, .int x2), (3, .int x3)] → W p l e ({ frames := 1, cells := 0, slots := 0, locals := 21 }) s m args below meth c H locs 0 0 (MQ below (va_Qv (fun (u : (Nat → Int64) × (Nat → Int64)) => post u.1 u.2) (fun u t => va_P D vwCl (wM k a mm nn we la si it be pa su wo le pp qq ro lo lp lq rp rq se (u.1) (u.2)) t.heap) A) args s 0 0 A) (F0 m 24 ls [])) : ∀ (no : Nat → Int64) (ne : Nat → Int64) (x3 : Int32) (x4 : Int32) (s0 : Int32) (H : Heap) (locs : List Loc) (ls : Array Slot), p_X5_addPlace_72 x1 x2 post k24 no ne x3 x4 s0 → va_P D vwCl (wM k a mm nn we la si it be pa su wo le pp qq ro lo lp lq rp rq se no ne) H → va_D A (wM k a mm nn we la si it be pa su wo le pp qq ro lo lp lq rp rq se no ne) → va_S A s.heap H locs → lv_has ls 8 [(0, .ref (a 0)), (1, .int x1), (2, .int x2), (3, .int x3), (4, .int x4)] → W p l e ({ frames := 1, cells := 0, slots := 0, locals := 21 }) s m args below meth c H locs 0 0 (MQ below (va_Qv (fun (u : (Nat → Int64) × (Nat → Int64)) => post u.1 u.2) (fun u t => va_P D vwCl (wM k a mm nn we la si it be pa su wo le pp qq ro lo lp lq rp rq se (u.1) (u.2)) t.heap) A) args s 0 0 A) (F0 m 72 ls [.int s0]) := by
  obtain ⟨hx, hb, hr, hts, hown, hlocks, hml⟩ := id C0
  intro no ne x3 x4 s0 H locs ls hf hP hD hS hl
  unfold p_X5_addPlace_72 at hf
  refine lv_istore (lv' := [(5, .int s0), (0, .ref (a 0)), (1, .int x1), (2, .int x2), (3, .int x3), (4, .int x4)]) hx hb dX5_addPlace_72 hl (by decide) rfl (fun ls hl => ?_)
  refine lv_iload hx hb dX5_addPlace_74 (lv_at hl 5 rfl) ?_
  refine lv_iload hx hb dX5_addPlace_76 (lv_at hl 0 rfl) ?_
  have hp : xPerm (wM k a mm nn we la si it be pa su wo le pp qq ro lo lp lq rp rq se no ne) (([]) ++ (wM k a mm nn we la si it be pa su wo le pp qq ro lo lp lq rp rq se no ne)) := (List.Perm.refl _)
  refine xCallI (w := []) (r := wM k a mm nn we la si it be pa su wo le pp qq ro lo lp lq rp rq se no ne) (va_runS (As := [.int x4, .int s0]) (rest := []) ⟨hx, hb, hml, hown, hts⟩ (c_X5_greater x4 s0 hf) (va_cwS 2 hts gX5_addPlace_X5_greater rfl rfl rfl (by decide +kernel) ⟨Nat.le_of_ble_eq_true rfl, Nat.le_of_ble_eq_true rfl⟩) (xPreS hG hP hD hp) rfl rfl hl.1 rfl (lv_room (Nat.le_of_ble_eq_true rfl)) dX5_addPlace_78 ⟨Nat.zero_le _, Nat.zero_le _⟩) hP hD hS hp (fun _ => rfl) (fun r_16 _ H locs hf hP hD hS => ?_)
  have hP : va_P D vwCl (wM k a mm nn we la si it be pa su wo le pp qq ro lo lp lq rp rq se no ne) H := hP
  have hD : va_D A (wM k a mm nn we la si it be pa su wo le pp qq ro lo lp lq rp rq se no ne) := hD
  refine lv_istore (lv' := [(6, .int r_16), (5, .int s0), (0, .ref (a 0)), (1, .int x1), (2, .int x2), (3, .int x3), (4, .int x4)]) hx hb dX5_addPlace_81 hl (by decide) rfl (fun ls hl => ?_)
  refine lv_iload hx hb dX5_addPlace_83 (lv_at hl 0 rfl) ?_
  refine lv_istore (lv' := [(7, .int r_16), (6, .int r_16), (5, .int s0), (0, .ref (a 0)), (1, .int x1), (2, .int x2), (3, .int x3), (4, .int x4)]) hx hb dX5_addPlace_85 hl (by decide) rfl (fun ls hl => ?_)
  obtain ⟨n_22, hf⟩ := hf
  exact k_X5_addPlace_87 C0 hG hk24 n_22 no ne x3 x4 r_16 r_16 _ _ _ hf hP hD hS (lv_sub hl [3, 4, 5, 6, 7, 1, 0] rfl)
set_option maxHeartbeats 4000000 in
set_option maxRecDepth 100000 in
theorem k_X5_addPlace_24 {p : Program} {l : Launch} {e : Env} {s : State} {m : MethodId} {args : Array Value} {below : List Frame} {meth : Method} {c : Code} {A : Nat → Prop} {D : va_G} {k : Nat → ClassId} {a : Nat → Nat} {mm : Int32} {nn : Int32} {we : Nat → Int32} {la : Nat → Int32} {si : Nat → Int32} {it : Nat → Int32} {be : Nat → Int32} {pa : Nat → Int32} {su : Nat → Int64} {wo : Nat → Int32} {le : Int32} {pp : Nat → Int32} {qq : Nat → Int32} {ro : Nat → Int32} {lo : Nat → Int32} {lp : Nat → Int32} {lq : Nat → Int32} {rp : Nat → Int32} {rq : Nat → Int32} {se : Nat → Int32} {x1 : Int32} {x2 : Int32} (C0 : xM p s m args meth c cX5_addPlace 8 RX5 none wsX5_addPlace) (hG : xG D k s) {post : (Nat → Int64) → (Nat → Int64) → Prop} : ∀ (n : Nat) (no : Nat → Int64) (ne : Nat → Int64) (x3 : Int32) (H : Heap) (locs : List Loc) (ls : Array Slot), p_X5_addPlace_24 x1 x2 post n no ne x3 → va_P D vwCl (wM k a mm nn we la si it be pa su wo le pp qq ro lo lp lq rp rq se no ne) H → va_D A (wM k a mm nn we la si it be pa su wo le pp qq ro lo lp lq rp rq se no ne) → va_S A s.heap H locs → lv_has ls 8 [(0, .ref (a 0)), (1, .int x1), (2, .int x2), (3, .int x3)] → W p l e ({ frames := 1, cells := 0, slots := 0, locals := 21 }) s m args below meth c H locs 0 0 (MQ below (va_Qv (fun (u : (Nat → Int64) × (Nat → Int64)) => post u.1 u.2) (fun u t => va_P D vwCl (wM k a mm nn we la si it be pa su wo le pp qq ro lo lp lq rp rq se (u.1) (u.2)) t.heap) A) args s 0 0 A) (F0 m 24 ls []) := by
  obtain ⟨hx, hb, hr, hts, hown, hlocks, hml⟩ := id C0
  intro n
  induction n with
  | zero =>
    intro no ne x3 H locs ls hf
    exact False.elim hf
  | succ n ih =>
    intro no ne x3 H locs ls hf hP hD hS hl
    unfold p_X5_addPlace_24 at hf
    refine lv_iload_n hx hb dX5_addPlace_24 rfl (lv_at hl 3 rfl) ?_
    refine lv_sipush (v := 729) hx hb dX5_addPlace_25 (by decide) ?_
    refine lv_icmp_ge (tgt := 137) hx hb dX5_addPlace_28 (by decide) (fun c_2 => ?_) (fun c_2 => ?_)
    · have hf := hf.1 c_2
      refine lv_iconst (v := 0) hx hb dX5_addPlace_137 (by decide) ?_
      refine lv_istore_n (lv' := [(3, .int 0), (0, .ref (a 0)), (1, .int x1), (2, .int x2)]) hx hb dX5_addPlace_138 rfl hl (by decide) rfl (fun ls hl => ?_)
      obtain ⟨n_6, hf⟩ := hf
      exact k_X5_addPlace_139 C0 hG n_6 no ne 0 _ _ _ hf hP hD hS (lv_sub hl [1, 0] rfl)
    · have hf := hf.2 c_2
      refine lv_aload_n hx hb dX5_addPlace_31 rfl (lv_at hl 0 rfl) ?_
      refine va_get (D := D) (ci := 5) (C := RX5) (T := TX5) (N := 22) hx hb hts in_X5_addPlace_X5 hown hG.1 hP 0 rfl rfl 20 (by decide) (hts _ lk_X5_addPlace_70) (fun _ h9 => h9) rfl dX5_addPlace_32 ?_
      refine lv_iload_n hx hb dX5_addPlace_35 rfl (lv_at hl 3 rfl) ?_
      obtain ⟨h_7, hf⟩ := hf
      refine va_lald hx hb hG.1 hP 18 1 rfl rfl h_7 dX5_addPlace_36 ?_
      refine lv_lconst (v := 0) hx hb dX5_addPlace_37 (by decide) ?_
      refine W.lcmp hx hb dX5_addPlace_38 ?_
      refine lv_if_le (tgt := 131) hx hb dX5_addPlace_39 (by decide) (fun c_8 => ?_) (fun c_8 => ?_)
      · have hf := hf.1 c_8
        exact k_X5_addPlace_131 C0 hG ih no ne x3 _ _ _ hf hP hD hS (lv_sub hl [0, 1, 2, 3] rfl)
      · have hf := hf.2 c_8
        refine lv_iload_n hx hb dX5_addPlace_42 rfl (lv_at hl 3 rfl) ?_
        refine lv_iload_n hx hb dX5_addPlace_43 rfl (lv_at hl 1 rfl) ?_
        have hp : xPerm (wM k a mm nn we la si it be pa su wo le pp qq ro lo lp lq rp rq se no ne) (([]) ++ (wM k a mm nn we la si it be pa su wo le pp qq ro lo lp lq rp rq se no ne)) := (List.Perm.refl _)
        refine xCallI (w := []) (r := wM k a mm nn we la si it be pa su wo le pp qq ro lo lp lq rp rq se no ne) (va_runS (As := [.int x1]) (rest := [.int x3]) ⟨hx, hb, hml, hown, hts⟩ (c_X5_power x1 hf) (va_cwS 1 hts gX5_addPlace_X5_power rfl rfl rfl (by decide +kernel) ⟨Nat.le_of_ble_eq_true rfl, Nat.le_of_ble_eq_true rfl⟩) (xPreS hG hP hD hp) rfl rfl hl.1 rfl (lv_room (Nat.le_of_ble_eq_true rfl)) dX5_addPlace_44 ⟨Nat.zero_le _, Nat.zero_le _⟩) hP hD hS hp (fun _ => rfl) (fun r_9 _ H locs hf hP hD hS => ?_)
        have hP : va_P D vwCl (wM k a mm nn we la si it be pa su wo le pp qq ro lo lp lq rp rq se no ne) H := hP
        have hD : va_D A (wM k a mm nn we la si it be pa su wo le pp qq ro lo lp lq rp rq se no ne) := hD
        obtain ⟨h_10, hf⟩ := hf
        refine lv_idiv hx hb dX5_addPlace_47 h_10 ?_
        refine lv_bipush (v := 9) hx hb dX5_addPlace_48 (by decide) ?_
        obtain ⟨h_11, hf⟩ := hf
        refine lv_irem hx hb dX5_addPlace_50 h_11 ?_
        refine lv_istore (lv' := [(4, .int ((x3 / r_9) - (x3 / r_9) / 9 * 9)), (0, .ref (a 0)), (1, .int x1), (2, .int x2), (3, .int x3)]) hx hb dX5_addPlace_51 hl (by decide) rfl (fun ls hl => ?_)
        refine lv_iload_n hx hb dX5_addPlace_53 rfl (lv_at hl 2 rfl) ?_
        refine lv_if_ne (tgt := 61) hx hb dX5_addPlace_54 (by decide) (fun c_12 => ?_) (fun c_12 => ?_)
        · have hf := hf.2 c_12
          refine lv_iload_n hx hb dX5_addPlace_61 rfl (lv_at hl 4 rfl) ?_
          refine lv_iload_n hx hb dX5_addPlace_62 rfl (lv_at hl 2 rfl) ?_
          refine lv_iconst (v := 1) hx hb dX5_addPlace_63 (by decide) ?_
          refine lv_isub hx hb dX5_addPlace_64 ?_
          have hp : xPerm (wM k a mm nn we la si it be pa su wo le pp qq ro lo lp lq rp rq se no ne) (([]) ++ (wM k a mm nn we la si it be pa su wo le pp qq ro lo lp lq rp rq se no ne)) := (List.Perm.refl _)
          refine xCallI (w := []) (r := wM k a mm nn we la si it be pa su wo le pp qq ro lo lp lq rp rq se no ne) (va_runS (As := [.int (x1 - 1)]) (rest := [.int x3]) ⟨hx, hb, hml, hown, hts⟩ (c_X5_power (x1 - 1) hf) (va_cwS 1 hts gX5_addPlace_X5_power rfl rfl rfl (by decide +kernel) ⟨Nat.le_of_ble_eq_true rfl, Nat.le_of_ble_eq_true rfl⟩) (xPreS hG hP hD hp) rfl rfl hl.1 rfl (lv_room (Nat.le_of_ble_eq_true rfl)) dX5_addPlace_65 ⟨Nat.zero_le _, Nat.zero_le _⟩) hP hD hS hp (fun _ => rfl) (fun r_13 _ H locs hf hP hD hS => ?_)
          have hP : va_P D vwCl (wM k a mm nn we la si it be pa su wo le pp qq ro lo lp lq rp rq se no ne) H := hP
          have hD : va_D A (wM k a mm nn we la si it be pa su wo le pp qq ro lo lp lq rp rq se no ne) := hD
          obtain ⟨h_14, hf⟩ := hf
          refine lv_idiv hx hb dX5_addPlace_68 h_14 ?_
          refine lv_bipush (v := 9) hx hb dX5_addPlace_69 (by decide) ?_
          obtain ⟨h_15, hf⟩ := hf
          refine lv_irem hx hb dX5_addPlace_71 h_15 ?_
          exact k_X5_addPlace_72 C0 hG ih no ne x3 ((x3 / r_9) - (x3 / r_9) / 9 * 9) ((x3 / r_13) - (x3 / r_13) / 9 * 9) _ _ _ hf hP hD hS (lv_sub hl [1, 2, 3, 4, 0] rfl)
        · have hf := hf.1 c_12
          refine lv_iconst (v := 0) hx hb dX5_addPlace_57 (by decide) ?_
          refine lv_goto (tgt := 72) hx hb dX5_addPlace_58 (by decide) ?_
          exact k_X5_addPlace_72 C0 hG ih no ne x3 ((x3 / r_9) - (x3 / r_9) / 9 * 9) 0 _ _ _ hf hP hD hS (lv_sub hl [1, 2, 3, 4, 0] rfl)
set_option maxHeartbeats 4000000 in
set_option maxRecDepth 100000 in
theorem k_X5_addPlace_2 {p : Program} {l : Launch} {e : Env} {s : State} {m : MethodId} {args : Array Value} {below : List Frame} {meth : Method} {c : Code} {A : Nat → Prop} {D : va_G} {k : Nat → ClassId} {a : Nat → Nat} {mm : Int32} {nn : Int32} {we : Nat → Int32} {la : Nat → Int32} {si : Nat → Int32} {it : Nat → Int32} {be : Nat → Int32} {pa : Nat → Int32} {su : Nat → Int64} {wo : Nat → Int32} {le : Int32} {pp : Nat → Int32} {qq : Nat → Int32} {ro : Nat → Int32} {lo : Nat → Int32} {lp : Nat → Int32} {lq : Nat → Int32} {rp : Nat → Int32} {rq : Nat → Int32} {se : Nat → Int32} {x1 : Int32} {x2 : Int32} (C0 : xM p s m args meth c cX5_addPlace 8 RX5 none wsX5_addPlace) (hG : xG D k s) {post : (Nat → Int64) → (Nat → Int64) → Prop} : ∀ (n : Nat) (no : Nat → Int64) (ne : Nat → Int64) (x3 : Int32) (H : Heap) (locs : List Loc) (ls : Array Slot), p_X5_addPlace_2 x1 x2 post n no ne x3 → va_P D vwCl (wM k a mm nn we la si it be pa su wo le pp qq ro lo lp lq rp rq se no ne) H → va_D A (wM k a mm nn we la si it be pa su wo le pp qq ro lo lp lq rp rq se no ne) → va_S A s.heap H locs → lv_has ls 8 [(0, .ref (a 0)), (1, .int x1), (2, .int x2), (3, .int x3)] → W p l e ({ frames := 1, cells := 0, slots := 0, locals := 21 }) s m args below meth c H locs 0 0 (MQ below (va_Qv (fun (u : (Nat → Int64) × (Nat → Int64)) => post u.1 u.2) (fun u t => va_P D vwCl (wM k a mm nn we la si it be pa su wo le pp qq ro lo lp lq rp rq se (u.1) (u.2)) t.heap) A) args s 0 0 A) (F0 m 2 ls []) := by
  obtain ⟨hx, hb, hr, hts, hown, hlocks, hml⟩ := id C0
  intro n
  induction n with
  | zero =>
    intro no ne x3 H locs ls hf
    exact False.elim hf
  | succ n ih =>
    intro no ne x3 H locs ls hf hP hD hS hl
    unfold p_X5_addPlace_2 at hf
    refine lv_iload_n hx hb dX5_addPlace_2 rfl (lv_at hl 3 rfl) ?_
    refine lv_sipush (v := 729) hx hb dX5_addPlace_3 (by decide) ?_
    refine lv_icmp_ge (tgt := 22) hx hb dX5_addPlace_6 (by decide) (fun c_1 => ?_) (fun c_1 => ?_)
    · have hf := hf.1 c_1
      refine lv_iconst (v := 0) hx hb dX5_addPlace_22 (by decide) ?_
      refine lv_istore_n (lv' := [(3, .int 0), (0, .ref (a 0)), (1, .int x1), (2, .int x2)]) hx hb dX5_addPlace_23 rfl hl (by decide) rfl (fun ls hl => ?_)
      obtain ⟨n_23, hf⟩ := hf
      exact k_X5_addPlace_24 C0 hG n_23 no ne 0 _ _ _ hf hP hD hS (lv_sub hl [1, 2, 3, 0] rfl)
    · have hf := hf.2 c_1
      refine lv_aload_n hx hb dX5_addPlace_9 rfl (lv_at hl 0 rfl) ?_
      refine va_get (D := D) (ci := 5) (C := RX5) (T := TX5) (N := 22) hx hb hts in_X5_addPlace_X5 hown hG.1 hP 0 rfl rfl 21 (by decide) (hts _ lk_X5_addPlace_73) (fun _ h9 => h9) rfl dX5_addPlace_10 ?_
      refine lv_iload_n hx hb dX5_addPlace_13 rfl (lv_at hl 3 rfl) ?_
      refine lv_lconst (v := 0) hx hb dX5_addPlace_14 (by decide) ?_
      obtain ⟨h_24, hf⟩ := hf
      refine va_last hx hb hG.1 hP hD hS 19 1 rfl rfl h_24 dX5_addPlace_15 (fun H locs hP hD hS => ?_)
      have hP : va_P D vwCl (wM k a mm nn we la si it be pa su wo le pp qq ro lo lp lq rp rq se no (vp_updL ne (x3.toNatClampNeg) 0)) H := hP
      have hD : va_D A (wM k a mm nn we la si it be pa su wo le pp qq ro lo lp lq rp rq se no (vp_updL ne (x3.toNatClampNeg) 0)) := hD
      refine lv_iinc (v := x3 + 1) (lv' := [(3, .int (x3 + 1)), (0, .ref (a 0)), (1, .int x1), (2, .int x2)]) hx hb dX5_addPlace_16 hl (k := 3) rfl rfl (by decide) rfl (fun ls hl => ?_)
      refine lv_goto (tgt := 2) hx hb dX5_addPlace_19 (by decide) ?_
      exact ih no (vp_updL ne (x3.toNatClampNeg) 0) (x3 + 1) _ _ _ hf hP hD hS (lv_sub hl [1, 2, 3, 0] rfl)
set_option maxHeartbeats 4000000 in
set_option maxRecDepth 100000 in
theorem c_X5_addPlace {l : Launch} {D : va_G} {k : Nat → ClassId} (a : Nat → Nat) (mm : Int32) (nn : Int32) (we : Nat → Int32) (la : Nat → Int32) (si : Nat → Int32) (it : Nat → Int32) (be : Nat → Int32) (pa : Nat → Int32) (su : Nat → Int64) (wo : Nat → Int32) (le : Int32) (pp : Nat → Int32) (qq : Nat → Int32) (ro : Nat → Int32) (lo : Nat → Int32) (lp : Nat → Int32) (lq : Nat → Int32) (rp : Nat → Int32) (rq : Nat → Int32) (se : Nat → Int32) (no : Nat → Int64) (ne : Nat → Int64) (x1 : Int32) (x2 : Int32) {post : (Nat → Int64) → (Nat → Int64) → Prop} (hf : p_X5_addPlace no ne x1 x2 post) : ctV l yX5_addPlace wsX5_addPlace ({ frames := 1, cells := 0, slots := 0, locals := 21 }) D k [.ref (a 0), .int x1, .int x2] (wM k a mm nn we la si it be pa su wo le pp qq ro lo lp lq rp rq se no ne) (fun u : (Nat → Int64) × (Nat → Int64) => wM k a mm nn we la si it be pa su wo le pp qq ro lo lp lq rp rq se (u.1) (u.2)) (fun (u : (Nat → Int64) × (Nat → Int64)) => post u.1 u.2) := by
  refine Met.ofW (cc := cX5_addPlace) (maxL := 8) (ret := none) (by decide) rfl ?_
  intro p e s m args below meth c s₁ B hml hv
  obtain ⟨rfl, hP, hG, hD0⟩ := hv
  have C0 : xM p s m ([.ref (a 0), .int x1, .int x2] : List Value).toArray meth c cX5_addPlace 8 RX5 none wsX5_addPlace := ⟨B.exec, B.bytes, B.returns, atoms_spec (ws := wsX5_addPlace) B.pre, findClass_of_methodNamed B.named, B.notSynchronized, hml⟩
  obtain ⟨hx, hb, hr, hts, hown, hlocks, hml⟩ := id C0
  have hD := xSelf hD0
  have hS : va_S (xIn (wM k a mm nn we la si it be pa su wo le pp qq ro lo lp lq rp rq se no ne)) s.heap s.heap [] := va_S.rf
  generalize xIn (wM k a mm nn we la si it be pa su wo le pp qq ro lo lp lq rp rq se no ne) = A at hD hS ⊢
  have hl := lv_entry ([.ref (a 0), .int x1, .int x2]) (n := 8) (Nat.le_of_ble_eq_true rfl)
  rw [lg_entry_eq]
  generalize (lg_sl ([.ref (a 0), .int x1, .int x2]) ++ List.replicate (8 - (lg_sl ([.ref (a 0), .int x1, .int x2])).length) Slot.unset).toArray = ls at hl ⊢
  have hl : lv_has ls 8 [(0, .ref (a 0)), (1, .int x1), (2, .int x2)] := hl
  unfold p_X5_addPlace at hf
  refine lv_iconst (v := 0) hx hb dX5_addPlace_0 (by decide) ?_
  refine lv_istore_n (lv' := [(3, .int 0), (0, .ref (a 0)), (1, .int x1), (2, .int x2)]) hx hb dX5_addPlace_1 rfl hl (by decide) rfl (fun ls hl => ?_)
  obtain ⟨n_25, hf⟩ := hf
  exact k_X5_addPlace_2 C0 hG n_25 no ne 0 _ _ _ hf hP hD hS (lv_sub hl [1, 2, 3, 0] rfl)

def p_X5_chance_128 (x1 : Int32) (x2 : Int32) (x3 : Int32) (post : Int64 → (Nat → Int64) → (Nat → Int64) → Prop) : Nat → (Nat → Int64) → (Nat → Int64) → Int64 → Int32 → Prop
  | 0, _, _, _, _ => False
  | n + 1, no, ne, x4, x6 => ((729 ≤ x6 → post x4 no ne) ∧ (¬ 729 ≤ x6 → (vp_in x6 729 ∧ p_X5_chance_128 x1 x2 x3 post n no ne (x4 + (no x6.toNatClampNeg)) (x6 + 1))))
def p_X5_chance_97 (x1 : Int32) (x2 : Int32) (x3 : Int32) (post : Int64 → (Nat → Int64) → (Nat → Int64) → Prop) (k88 : (Nat → Int64) → (Nat → Int64) → Int32 → Prop) : Nat → (Nat → Int64) → (Nat → Int64) → Int32 → Int32 → Prop
  | 0, _, _, _, _ => False
  | n + 1, no, ne, x4, x5 => ((x2 ≤ x5 → k88 no ne (x4 + 1)) ∧ (¬ x2 ≤ x5 → p_X5_addPlace no ne x5 x3 (fun no_15 ne_16 => p_X5_chance_97 x1 x2 x3 post k88 n no_15 ne_16 x4 (x5 + 1))))
def p_X5_chance_88 (x1 : Int32) (x2 : Int32) (x3 : Int32) (post : Int64 → (Nat → Int64) → (Nat → Int64) → Prop) : Nat → (Nat → Int64) → (Nat → Int64) → Int32 → Prop
  | 0, _, _, _ => False
  | n + 1, no, ne, x4 => ((x1 ≤ x4 → (∃ n_13, p_X5_chance_128 x1 x2 x3 post n_13 no ne 0 0)) ∧ (¬ x1 ≤ x4 → (∃ n_17, p_X5_chance_97 x1 x2 x3 post (fun no ne x4 => p_X5_chance_88 x1 x2 x3 post n no ne x4) n_17 no ne x4 0)))
def p_X5_chance_82 (x1 : Int32) (x2 : Int32) (x3 : Int32) (post : Int64 → (Nat → Int64) → (Nat → Int64) → Prop) (no : Nat → Int64) (ne : Nat → Int64) (s0 : Int32) (s1 : Int32) (s2 : Int64) (s3 : Int32) : Prop := (vp_in s3 729 ∧ (∃ n_18, p_X5_chance_88 x1 x2 x3 post n_18 (vp_updL no (s3.toNatClampNeg) (s2 <<< ((s1 * s0).toInt64 &&& 63))) ne 0))
def p_X5_chance_43 (x1 : Int32) (x2 : Int32) (x3 : Int32) (post : Int64 → (Nat → Int64) → (Nat → Int64) → Prop) : Nat → (Nat → Int64) → (Nat → Int64) → Int32 → Prop
  | 0, _, _, _ => False
  | n + 1, no, ne, x4 => ((729 ≤ x4 → ((x2 ≤ x1 → p_X5_chance_82 x1 x2 x3 post no ne x2 x3 1 0) ∧ (¬ x2 ≤ x1 → p_X5_chance_82 x1 x2 x3 post no ne x1 x3 1 0))) ∧ (¬ 729 ≤ x4 → (vp_in x4 729 ∧ p_X5_chance_43 x1 x2 x3 post n (vp_updL no (x4.toNatClampNeg) 0) ne (x4 + 1))))
def p_X5_chance (no : Nat → Int64) (ne : Nat → Int64) (x1 : Int32) (x2 : Int32) (x3 : Int32) (post : Int64 → (Nat → Int64) → (Nat → Int64) → Prop) : Prop := p_X5_in (x1.toInt64) 1 3 (fun r_1 => ((r_1 = 0 → post (-1) no ne) ∧ (¬ r_1 = 0 → p_X5_in (x2.toInt64) 1 3 (fun r_3 => ((r_3 = 0 → post (-1) no ne) ∧ (¬ r_3 = 0 → p_X5_in (x3.toInt64) 0 8 (fun r_5 => ((r_5 = 0 → post (-1) no ne) ∧ (¬ r_5 = 0 → (∃ n_20, p_X5_chance_43 x1 x2 x3 post n_20 no ne 0))))))))))
theorem in_X5_chance_X5 : ∀ w ∈ u_ws RX5 TX5 22, w ∈ wsX5_chance := by decide +kernel
theorem lk_X5_chance_70 : Cond.fieldLink RX5 70 "GrowingCornersModel" "now" "[J" ∈ wsX5_chance := by decide +kernel
theorem mb_X5_chance_cl106 : Cond.constantLong RX5 106 (-1) ∈ wsX5_chance := by decide +kernel
theorem mb_X5_chance_cl116 : Cond.constantLong RX5 116 (8) ∈ wsX5_chance := by decide +kernel
theorem mb_X5_chance_cl88 : Cond.constantLong RX5 88 (3) ∈ wsX5_chance := by decide +kernel
set_option maxHeartbeats 4000000 in
set_option maxRecDepth 100000 in
theorem k_X5_chance_128 {p : Program} {l : Launch} {e : Env} {s : State} {m : MethodId} {args : Array Value} {below : List Frame} {meth : Method} {c : Code} {A : Nat → Prop} {D : va_G} {k : Nat → ClassId} {a : Nat → Nat} {mm : Int32} {nn : Int32} {we : Nat → Int32} {la : Nat → Int32} {si : Nat → Int32} {it : Nat → Int32} {be : Nat → Int32} {pa : Nat → Int32} {su : Nat → Int64} {wo : Nat → Int32} {le : Int32} {pp : Nat → Int32} {qq : Nat → Int32} {ro : Nat → Int32} {lo : Nat → Int32} {lp : Nat → Int32} {lq : Nat → Int32} {rp : Nat → Int32} {rq : Nat → Int32} {se : Nat → Int32} {x1 : Int32} {x2 : Int32} {x3 : Int32} (C0 : xM p s m args meth c cX5_chance 7 RX5 (some .long) wsX5_chance) (hG : xG D k s) {post : Int64 → (Nat → Int64) → (Nat → Int64) → Prop} : ∀ (n : Nat) (no : Nat → Int64) (ne : Nat → Int64) (x4 : Int64) (x6 : Int32) (H : Heap) (locs : List Loc) (ls : Array Slot), p_X5_chance_128 x1 x2 x3 post n no ne x4 x6 → va_P D vwCl (wM k a mm nn we la si it be pa su wo le pp qq ro lo lp lq rp rq se no ne) H → va_D A (wM k a mm nn we la si it be pa su wo le pp qq ro lo lp lq rp rq se no ne) → va_S A s.heap H locs → lv_has ls 7 [(0, .ref (a 0)), (4, .long x4), (6, .int x6)] → W p l e ({ frames := 2, cells := 0, slots := 0, locals := 48 }) s m args below meth c H locs 0 0 (MQ below (va_Ql (fun (r : Int64) (u : (Nat → Int64) × (Nat → Int64)) => post r u.1 u.2) (fun u t => va_P D vwCl (wM k a mm nn we la si it be pa su wo le pp qq ro lo lp lq rp rq se (u.1) (u.2)) t.heap) A) args s 0 0 A) (F0 m 128 ls []) := by
  obtain ⟨hx, hb, hr, hts, hown, hlocks, hml⟩ := id C0
  intro n
  induction n with
  | zero =>
    intro no ne x4 x6 H locs ls hf
    exact False.elim hf
  | succ n ih =>
    intro no ne x4 x6 H locs ls hf hP hD hS hl
    unfold p_X5_chance_128 at hf
    refine lv_iload hx hb dX5_chance_128 (lv_at hl 2 rfl) ?_
    refine lv_sipush (v := 729) hx hb dX5_chance_130 (by decide) ?_
    refine lv_icmp_ge (tgt := 154) hx hb dX5_chance_133 (by decide) (fun c_11 => ?_) (fun c_11 => ?_)
    · have hf := hf.1 c_11
      refine lv_lload hx hb dX5_chance_154 (lv_at hl 1 rfl) ?_
      exact W.lret (v := x4) hx hb hr (fun t ht hW => ⟨⟨x4, (no, ne), rfl, hf, xHp ht hP⟩, hS.F ht⟩) hS.2.2 dX5_chance_156 hlocks
    · have hf := hf.2 c_11
      refine lv_lload hx hb dX5_chance_136 (lv_at hl 1 rfl) ?_
      refine lv_aload_n hx hb dX5_chance_138 rfl (lv_at hl 0 rfl) ?_
      refine va_get (D := D) (ci := 5) (C := RX5) (T := TX5) (N := 22) hx hb hts in_X5_chance_X5 hown hG.1 hP 0 rfl rfl 20 (by decide) (hts _ lk_X5_chance_70) (fun _ h9 => h9) rfl dX5_chance_139 ?_
      refine lv_iload hx hb dX5_chance_142 (lv_at hl 2 rfl) ?_
      obtain ⟨h_12, hf⟩ := hf
      refine va_lald hx hb hG.1 hP 18 1 rfl rfl h_12 dX5_chance_144 ?_
      refine lv_ladd hx hb dX5_chance_145 ?_
      refine lv_lstore (lv' := [(4, .long (x4 + (no x6.toNatClampNeg))), (0, .ref (a 0)), (6, .int x6)]) hx hb dX5_chance_146 hl (by decide) rfl (fun ls hl => ?_)
      refine lv_iinc (v := x6 + 1) (lv' := [(6, .int (x6 + 1)), (4, .long (x4 + (no x6.toNatClampNeg))), (0, .ref (a 0))]) hx hb dX5_chance_148 hl (k := 2) rfl rfl (by decide) rfl (fun ls hl => ?_)
      refine lv_goto (tgt := 128) hx hb dX5_chance_151 (by decide) ?_
      exact ih no ne (x4 + (no x6.toNatClampNeg)) (x6 + 1) _ _ _ hf hP hD hS (lv_sub hl [2, 1, 0] rfl)
set_option maxHeartbeats 4000000 in
set_option maxRecDepth 100000 in
theorem k_X5_chance_97 {p : Program} {l : Launch} {e : Env} {s : State} {m : MethodId} {args : Array Value} {below : List Frame} {meth : Method} {c : Code} {A : Nat → Prop} {D : va_G} {k : Nat → ClassId} {a : Nat → Nat} {mm : Int32} {nn : Int32} {we : Nat → Int32} {la : Nat → Int32} {si : Nat → Int32} {it : Nat → Int32} {be : Nat → Int32} {pa : Nat → Int32} {su : Nat → Int64} {wo : Nat → Int32} {le : Int32} {pp : Nat → Int32} {qq : Nat → Int32} {ro : Nat → Int32} {lo : Nat → Int32} {lp : Nat → Int32} {lq : Nat → Int32} {rp : Nat → Int32} {rq : Nat → Int32} {se : Nat → Int32} {x1 : Int32} {x2 : Int32} {x3 : Int32} (C0 : xM p s m args meth c cX5_chance 7 RX5 (some .long) wsX5_chance) (hG : xG D k s) {post : Int64 → (Nat → Int64) → (Nat → Int64) → Prop} {k88 : (Nat → Int64) → (Nat → Int64) → Int32 → Prop} (hk88 : ∀ (no : Nat → Int64) (ne : Nat → Int64) (x4 : Int32) (H : Heap) (locs : List Loc) (ls : Array Slot), k88 no ne x4 → va_P D vwCl (wM k a mm nn we la si it be pa su wo le pp qq ro lo lp lq rp rq se no ne) H → va_D A (wM k a mm nn we la si it be pa su wo le pp qq ro lo lp lq rp rq se no ne) → va_S A s.heap H locs → lv_has ls 7 [(0, .ref (a 0)), (1, .int x1), (2, .int x2), (3, .int x3), (4, .int x4)] → W p l e ({ frames := 2, cells := 0, slots := 0, locals := 48 }) s m args below meth c H locs 0 0 (MQ below (va_Ql (fun (r : Int64) (u : (Nat → Int64) × (Nat → Int64)) => post r u.1 u.2) (fun u t => va_P D vwCl (wM k a mm nn we la si it be pa su wo le pp qq ro lo lp lq rp rq se (u.1) (u.2)) t.heap) A) args s 0 0 A) (F0 m 88 ls [])) : ∀ (n : Nat) (no : Nat → Int64) (ne : Nat → Int64) (x4 : Int32) (x5 : Int32) (H : Heap) (locs : List Loc) (ls : Array Slot), p_X5_chance_97 x1 x2 x3 post k88 n no ne x4 x5 → va_P D vwCl (wM k a mm nn we la si it be pa su wo le pp qq ro lo lp lq rp rq se no ne) H → va_D A (wM k a mm nn we la si it be pa su wo le pp qq ro lo lp lq rp rq se no ne) → va_S A s.heap H locs → lv_has ls 7 [(0, .ref (a 0)), (1, .int x1), (2, .int x2), (3, .int x3), (4, .int x4), (5, .int x5)] → W p l e ({ frames := 2, cells := 0, slots := 0, locals := 48 }) s m args below meth c H locs 0 0 (MQ below (va_Ql (fun (r : Int64) (u : (Nat → Int64) × (Nat → Int64)) => post r u.1 u.2) (fun u t => va_P D vwCl (wM k a mm nn we la si it be pa su wo le pp qq ro lo lp lq rp rq se (u.1) (u.2)) t.heap) A) args s 0 0 A) (F0 m 97 ls []) := by
  obtain ⟨hx, hb, hr, hts, hown, hlocks, hml⟩ := id C0
  intro n
  induction n with
  | zero =>
    intro no ne x4 x5 H locs ls hf
    exact False.elim hf
  | succ n ih =>
    intro no ne x4 x5 H locs ls hf hP hD hS hl
    unfold p_X5_chance_97 at hf
    refine lv_iload hx hb dX5_chance_97 (lv_at hl 5 rfl) ?_
    refine lv_iload_n hx hb dX5_chance_99 rfl (lv_at hl 2 rfl) ?_
    refine lv_icmp_ge (tgt := 116) hx hb dX5_chance_100 (by decide) (fun c_14 => ?_) (fun c_14 => ?_)
    · have hf := hf.1 c_14
      refine lv_iinc (v := x4 + 1) (lv' := [(4, .int (x4 + 1)), (0, .ref (a 0)), (1, .int x1), (2, .int x2), (3, .int x3), (5, .int x5)]) hx hb dX5_chance_116 hl (k := 4) rfl rfl (by decide) rfl (fun ls hl => ?_)
      refine lv_goto (tgt := 88) hx hb dX5_chance_119 (by decide) ?_
      exact hk88 no ne (x4 + 1) _ _ _ hf hP hD hS (lv_sub hl [1, 2, 3, 4, 0] rfl)
    · have hf := hf.2 c_14
      refine lv_aload_n hx hb dX5_chance_103 rfl (lv_at hl 0 rfl) ?_
      refine lv_iload hx hb dX5_chance_104 (lv_at hl 5 rfl) ?_
      refine lv_iload_n hx hb dX5_chance_106 rfl (lv_at hl 3 rfl) ?_
      have hp : xPerm (wM k a mm nn we la si it be pa su wo le pp qq ro lo lp lq rp rq se no ne) ((wM k a mm nn we la si it be pa su wo le pp qq ro lo lp lq rp rq se no ne) ++ ([])) := xPermNil
      refine xCallV (w := wM k a mm nn we la si it be pa su wo le pp qq ro lo lp lq rp rq se no ne) (r := []) (va_runV (As := [.int x5, .int x3]) (rest := []) ⟨hx, hb, hml, hown, hts⟩ (c_X5_addPlace a mm nn we la si it be pa su wo le pp qq ro lo lp lq rp rq se no ne x5 x3 hf) (cwV 2 hts gX5_chance_X5_addPlace rfl rfl rfl (by decide +kernel) ⟨Nat.le_of_ble_eq_true rfl, Nat.le_of_ble_eq_true rfl⟩) (xPreV hG hP hD hp (ci := 5) rfl (i := 0) rfl) rfl rfl hl.1 rfl (lv_room (Nat.le_of_ble_eq_true rfl)) dX5_chance_107 ⟨Nat.zero_le _, Nat.zero_le _⟩) hP hD hS hp (fun _ => rfl) (fun u H locs hf hP hD hS => ?_)
      obtain ⟨no_15, ne_16⟩ := u
      have hP : va_P D vwCl (wM k a mm nn we la si it be pa su wo le pp qq ro lo lp lq rp rq se no_15 ne_16) H := xNilP hP
      have hD : va_D A (wM k a mm nn we la si it be pa su wo le pp qq ro lo lp lq rp rq se no_15 ne_16) := xNilD hD
      refine lv_iinc (v := x5 + 1) (lv' := [(5, .int (x5 + 1)), (0, .ref (a 0)), (1, .int x1), (2, .int x2), (3, .int x3), (4, .int x4)]) hx hb dX5_chance_110 hl (k := 5) rfl rfl (by decide) rfl (fun ls hl => ?_)
      refine lv_goto (tgt := 97) hx hb dX5_chance_113 (by decide) ?_
      exact ih no_15 ne_16 x4 (x5 + 1) _ _ _ hf hP hD hS (lv_sub hl [1, 2, 3, 4, 5, 0] rfl)
set_option maxHeartbeats 4000000 in
set_option maxRecDepth 100000 in
theorem k_X5_chance_88 {p : Program} {l : Launch} {e : Env} {s : State} {m : MethodId} {args : Array Value} {below : List Frame} {meth : Method} {c : Code} {A : Nat → Prop} {D : va_G} {k : Nat → ClassId} {a : Nat → Nat} {mm : Int32} {nn : Int32} {we : Nat → Int32} {la : Nat → Int32} {si : Nat → Int32} {it : Nat → Int32} {be : Nat → Int32} {pa : Nat → Int32} {su : Nat → Int64} {wo : Nat → Int32} {le : Int32} {pp : Nat → Int32} {qq : Nat → Int32} {ro : Nat → Int32} {lo : Nat → Int32} {lp : Nat → Int32} {lq : Nat → Int32} {rp : Nat → Int32} {rq : Nat → Int32} {se : Nat → Int32} {x1 : Int32} {x2 : Int32} {x3 : Int32} (C0 : xM p s m args meth c cX5_chance 7 RX5 (some .long) wsX5_chance) (hG : xG D k s) {post : Int64 → (Nat → Int64) → (Nat → Int64) → Prop} : ∀ (n : Nat) (no : Nat → Int64) (ne : Nat → Int64) (x4 : Int32) (H : Heap) (locs : List Loc) (ls : Array Slot), p_X5_chance_88 x1 x2 x3 post n no ne x4 → va_P D vwCl (wM k a mm nn we la si it be pa su wo le pp qq ro lo lp lq rp rq se no ne) H → va_D A (wM k a mm nn we la si it be pa su wo le pp qq ro lo lp lq rp rq se no ne) → va_S A s.heap H locs → lv_has ls 7 [(0, .ref (a 0)), (1, .int x1), (2, .int x2), (3, .int x3), (4, .int x4)] → W p l e ({ frames := 2, cells := 0, slots := 0, locals := 48 }) s m args below meth c H locs 0 0 (MQ below (va_Ql (fun (r : Int64) (u : (Nat → Int64) × (Nat → Int64)) => post r u.1 u.2) (fun u t => va_P D vwCl (wM k a mm nn we la si it be pa su wo le pp qq ro lo lp lq rp rq se (u.1) (u.2)) t.heap) A) args s 0 0 A) (F0 m 88 ls []) := by
  obtain ⟨hx, hb, hr, hts, hown, hlocks, hml⟩ := id C0
  intro n
  induction n with
  | zero =>
    intro no ne x4 H locs ls hf
    exact False.elim hf
  | succ n ih =>
    intro no ne x4 H locs ls hf hP hD hS hl
    unfold p_X5_chance_88 at hf
    refine lv_iload hx hb dX5_chance_88 (lv_at hl 4 rfl) ?_
    refine lv_iload_n hx hb dX5_chance_90 rfl (lv_at hl 1 rfl) ?_
    refine lv_icmp_ge (tgt := 122) hx hb dX5_chance_91 (by decide) (fun c_10 => ?_) (fun c_10 => ?_)
    · have hf := hf.1 c_10
      refine lv_lconst (v := 0) hx hb dX5_chance_122 (by decide) ?_
      refine lv_lstore (lv' := [(4, .long 0), (0, .ref (a 0)), (1, .int x1), (2, .int x2), (3, .int x3)]) hx hb dX5_chance_123 hl (by decide) rfl (fun ls hl => ?_)
      refine lv_iconst (v := 0) hx hb dX5_chance_125 (by decide) ?_
      refine lv_istore (lv' := [(6, .int 0), (4, .long 0), (0, .ref (a 0)), (1, .int x1), (2, .int x2), (3, .int x3)]) hx hb dX5_chance_126 hl (by decide) rfl (fun ls hl => ?_)
      obtain ⟨n_13, hf⟩ := hf
      exact k_X5_chance_128 C0 hG n_13 no ne 0 0 _ _ _ hf hP hD hS (lv_sub hl [2, 1, 0] rfl)
    · have hf := hf.2 c_10
      refine lv_iconst (v := 0) hx hb dX5_chance_94 (by decide) ?_
      refine lv_istore (lv' := [(5, .int 0), (0, .ref (a 0)), (1, .int x1), (2, .int x2), (3, .int x3), (4, .int x4)]) hx hb dX5_chance_95 hl (by decide) rfl (fun ls hl => ?_)
      obtain ⟨n_17, hf⟩ := hf
      exact k_X5_chance_97 C0 hG ih n_17 no ne x4 0 _ _ _ hf hP hD hS (lv_sub hl [1, 2, 3, 4, 5, 0] rfl)
set_option maxHeartbeats 4000000 in
set_option maxRecDepth 100000 in
theorem k_X5_chance_82 {p : Program} {l : Launch} {e : Env} {s : State} {m : MethodId} {args : Array Value} {below : List Frame} {meth : Method} {c : Code} {A : Nat → Prop} {D : va_G} {k : Nat → ClassId} {a : Nat → Nat} {mm : Int32} {nn : Int32} {we : Nat → Int32} {la : Nat → Int32} {si : Nat → Int32} {it : Nat → Int32} {be : Nat → Int32} {pa : Nat → Int32} {su : Nat → Int64} {wo : Nat → Int32} {le : Int32} {pp : Nat → Int32} {qq : Nat → Int32} {ro : Nat → Int32} {lo : Nat → Int32} {lp : Nat → Int32} {lq : Nat → Int32} {rp : Nat → Int32} {rq : Nat → Int32} {se : Nat → Int32} {x1 : Int32} {x2 : Int32} {x3 : Int32} (C0 : xM p s m args meth c cX5_chance 7 RX5 (some .long) wsX5_chance) (hG : xG D k s) {post : Int64 → (Nat → Int64) → (Nat → Int64) → Prop} : ∀ (no : Nat → Int64) (ne : Nat → Int64) (s0 : Int32) (s1 : Int32) (s2 : Int64) (s3 : Int32) (H : Heap) (locs : List Loc) (ls : Array Slot), p_X5_chance_82 x1 x2 x3 post no ne s0 s1 s2 s3 → va_P D vwCl (wM k a mm nn we la si it be pa su wo le pp qq ro lo lp lq rp rq se no ne) H → va_D A (wM k a mm nn we la si it be pa su wo le pp qq ro lo lp lq rp rq se no ne) → va_S A s.heap H locs → lv_has ls 7 [(0, .ref (a 0)), (1, .int x1), (2, .int x2), (3, .int x3)] → W p l e ({ frames := 2, cells := 0, slots := 0, locals := 48 }) s m args below meth c H locs 0 0 (MQ below (va_Ql (fun (r : Int64) (u : (Nat → Int64) × (Nat → Int64)) => post r u.1 u.2) (fun u t => va_P D vwCl (wM k a mm nn we la si it be pa su wo le pp qq ro lo lp lq rp rq se (u.1) (u.2)) t.heap) A) args s 0 0 A) (F0 m 82 ls [.int s0, .int s1, .long s2, .int s3, .ref (a 18)]) := by
  obtain ⟨hx, hb, hr, hts, hown, hlocks, hml⟩ := id C0
  intro no ne s0 s1 s2 s3 H locs ls hf hP hD hS hl
  unfold p_X5_chance_82 at hf
  refine lv_imul hx hb dX5_chance_82 ?_
  refine lv_lshl (v := s2 <<< ((s1 * s0).toInt64 &&& 63)) hx hb dX5_chance_83 rfl ?_
  obtain ⟨h_9, hf⟩ := hf
  refine va_last hx hb hG.1 hP hD hS 18 1 rfl rfl h_9 dX5_chance_84 (fun H locs hP hD hS => ?_)
  have hP : va_P D vwCl (wM k a mm nn we la si it be pa su wo le pp qq ro lo lp lq rp rq se (vp_updL no (s3.toNatClampNeg) (s2 <<< ((s1 * s0).toInt64 &&& 63))) ne) H := hP
  have hD : va_D A (wM k a mm nn we la si it be pa su wo le pp qq ro lo lp lq rp rq se (vp_updL no (s3.toNatClampNeg) (s2 <<< ((s1 * s0).toInt64 &&& 63))) ne) := hD
  refine lv_iconst (v := 0) hx hb dX5_chance_85 (by decide) ?_
  refine lv_istore (lv' := [(4, .int 0), (0, .ref (a 0)), (1, .int x1), (2, .int x2), (3, .int x3)]) hx hb dX5_chance_86 hl (by decide) rfl (fun ls hl => ?_)
  obtain ⟨n_18, hf⟩ := hf
  exact k_X5_chance_88 C0 hG n_18 (vp_updL no (s3.toNatClampNeg) (s2 <<< ((s1 * s0).toInt64 &&& 63))) ne 0 _ _ _ hf hP hD hS (lv_sub hl [1, 2, 3, 4, 0] rfl)
set_option maxHeartbeats 4000000 in
set_option maxRecDepth 100000 in
theorem k_X5_chance_43 {p : Program} {l : Launch} {e : Env} {s : State} {m : MethodId} {args : Array Value} {below : List Frame} {meth : Method} {c : Code} {A : Nat → Prop} {D : va_G} {k : Nat → ClassId} {a : Nat → Nat} {mm : Int32} {nn : Int32} {we : Nat → Int32} {la : Nat → Int32} {si : Nat → Int32} {it : Nat → Int32} {be : Nat → Int32} {pa : Nat → Int32} {su : Nat → Int64} {wo : Nat → Int32} {le : Int32} {pp : Nat → Int32} {qq : Nat → Int32} {ro : Nat → Int32} {lo : Nat → Int32} {lp : Nat → Int32} {lq : Nat → Int32} {rp : Nat → Int32} {rq : Nat → Int32} {se : Nat → Int32} {x1 : Int32} {x2 : Int32} {x3 : Int32} (C0 : xM p s m args meth c cX5_chance 7 RX5 (some .long) wsX5_chance) (hG : xG D k s) {post : Int64 → (Nat → Int64) → (Nat → Int64) → Prop} : ∀ (n : Nat) (no : Nat → Int64) (ne : Nat → Int64) (x4 : Int32) (H : Heap) (locs : List Loc) (ls : Array Slot), p_X5_chance_43 x1 x2 x3 post n no ne x4 → va_P D vwCl (wM k a mm nn we la si it be pa su wo le pp qq ro lo lp lq rp rq se no ne) H → va_D A (wM k a mm nn we la si it be pa su wo le pp qq ro lo lp lq rp rq se no ne) → va_S A s.heap H locs → lv_has ls 7 [(0, .ref (a 0)), (1, .int x1), (2, .int x2), (3, .int x3), (4, .int x4)] → W p l e ({ frames := 2, cells := 0, slots := 0, locals := 48 }) s m args below meth c H locs 0 0 (MQ below (va_Ql (fun (r : Int64) (u : (Nat → Int64) × (Nat → Int64)) => post r u.1 u.2) (fun u t => va_P D vwCl (wM k a mm nn we la si it be pa su wo le pp qq ro lo lp lq rp rq se (u.1) (u.2)) t.heap) A) args s 0 0 A) (F0 m 43 ls []) := by
  obtain ⟨hx, hb, hr, hts, hown, hlocks, hml⟩ := id C0
  intro n
  induction n with
  | zero =>
    intro no ne x4 H locs ls hf
    exact False.elim hf
  | succ n ih =>
    intro no ne x4 H locs ls hf hP hD hS hl
    unfold p_X5_chance_43 at hf
    refine lv_iload hx hb dX5_chance_43 (lv_at hl 4 rfl) ?_
    refine lv_sipush (v := 729) hx hb dX5_chance_45 (by decide) ?_
    refine lv_icmp_ge (tgt := 65) hx hb dX5_chance_48 (by decide) (fun c_7 => ?_) (fun c_7 => ?_)
    · have hf := hf.1 c_7
      refine lv_aload_n hx hb dX5_chance_65 rfl (lv_at hl 0 rfl) ?_
      refine va_get (D := D) (ci := 5) (C := RX5) (T := TX5) (N := 22) hx hb hts in_X5_chance_X5 hown hG.1 hP 0 rfl rfl 20 (by decide) (hts _ lk_X5_chance_70) (fun _ h9 => h9) rfl dX5_chance_66 ?_
      refine lv_iconst (v := 0) hx hb dX5_chance_69 (by decide) ?_
      refine lv_lconst (v := 1) hx hb dX5_chance_70 (by decide) ?_
      refine lv_iload_n hx hb dX5_chance_71 rfl (lv_at hl 3 rfl) ?_
      refine lv_iload_n hx hb dX5_chance_72 rfl (lv_at hl 1 rfl) ?_
      refine lv_iload_n hx hb dX5_chance_73 rfl (lv_at hl 2 rfl) ?_
      refine lv_icmp_ge (tgt := 81) hx hb dX5_chance_74 (by decide) (fun c_8 => ?_) (fun c_8 => ?_)
      · have hf := hf.1 c_8
        refine lv_iload_n hx hb dX5_chance_81 rfl (lv_at hl 2 rfl) ?_
        exact k_X5_chance_82 C0 hG no ne x2 x3 1 0 _ _ _ hf hP hD hS (lv_sub hl [0, 1, 2, 3] rfl)
      · have hf := hf.2 c_8
        refine lv_iload_n hx hb dX5_chance_77 rfl (lv_at hl 1 rfl) ?_
        refine lv_goto (tgt := 82) hx hb dX5_chance_78 (by decide) ?_
        exact k_X5_chance_82 C0 hG no ne x1 x3 1 0 _ _ _ hf hP hD hS (lv_sub hl [0, 1, 2, 3] rfl)
    · have hf := hf.2 c_7
      refine lv_aload_n hx hb dX5_chance_51 rfl (lv_at hl 0 rfl) ?_
      refine va_get (D := D) (ci := 5) (C := RX5) (T := TX5) (N := 22) hx hb hts in_X5_chance_X5 hown hG.1 hP 0 rfl rfl 20 (by decide) (hts _ lk_X5_chance_70) (fun _ h9 => h9) rfl dX5_chance_52 ?_
      refine lv_iload hx hb dX5_chance_55 (lv_at hl 4 rfl) ?_
      refine lv_lconst (v := 0) hx hb dX5_chance_57 (by decide) ?_
      obtain ⟨h_19, hf⟩ := hf
      refine va_last hx hb hG.1 hP hD hS 18 1 rfl rfl h_19 dX5_chance_58 (fun H locs hP hD hS => ?_)
      have hP : va_P D vwCl (wM k a mm nn we la si it be pa su wo le pp qq ro lo lp lq rp rq se (vp_updL no (x4.toNatClampNeg) 0) ne) H := hP
      have hD : va_D A (wM k a mm nn we la si it be pa su wo le pp qq ro lo lp lq rp rq se (vp_updL no (x4.toNatClampNeg) 0) ne) := hD
      refine lv_iinc (v := x4 + 1) (lv' := [(4, .int (x4 + 1)), (0, .ref (a 0)), (1, .int x1), (2, .int x2), (3, .int x3)]) hx hb dX5_chance_59 hl (k := 4) rfl rfl (by decide) rfl (fun ls hl => ?_)
      refine lv_goto (tgt := 43) hx hb dX5_chance_62 (by decide) ?_
      exact ih (vp_updL no (x4.toNatClampNeg) 0) ne (x4 + 1) _ _ _ hf hP hD hS (lv_sub hl [1, 2, 3, 4, 0] rfl)
set_option maxHeartbeats 4000000 in
set_option maxRecDepth 100000 in
theorem c_X5_chance {l : Launch} {D : va_G} {k : Nat → ClassId} (a : Nat → Nat) (mm : Int32) (nn : Int32) (we : Nat → Int32) (la : Nat → Int32) (si : Nat → Int32) (it : Nat → Int32) (be : Nat → Int32) (pa : Nat → Int32) (su : Nat → Int64) (wo : Nat → Int32) (le : Int32) (pp : Nat → Int32) (qq : Nat → Int32) (ro : Nat → Int32) (lo : Nat → Int32) (lp : Nat → Int32) (lq : Nat → Int32) (rp : Nat → Int32) (rq : Nat → Int32) (se : Nat → Int32) (no : Nat → Int64) (ne : Nat → Int64) (x1 : Int32) (x2 : Int32) (x3 : Int32) {post : Int64 → (Nat → Int64) → (Nat → Int64) → Prop} (hf : p_X5_chance no ne x1 x2 x3 post) : ctL l yX5_chance wsX5_chance ({ frames := 2, cells := 0, slots := 0, locals := 48 }) D k [.ref (a 0), .int x1, .int x2, .int x3] (wM k a mm nn we la si it be pa su wo le pp qq ro lo lp lq rp rq se no ne) (fun u : (Nat → Int64) × (Nat → Int64) => wM k a mm nn we la si it be pa su wo le pp qq ro lo lp lq rp rq se (u.1) (u.2)) (fun (r : Int64) (u : (Nat → Int64) × (Nat → Int64)) => post r u.1 u.2) := by
  refine Met.ofW (cc := cX5_chance) (maxL := 7) (ret := (some .long)) (by decide) rfl ?_
  intro p e s m args below meth c s₁ B hml hv
  obtain ⟨rfl, hP, hG, hD0⟩ := hv
  have C0 : xM p s m ([.ref (a 0), .int x1, .int x2, .int x3] : List Value).toArray meth c cX5_chance 7 RX5 (some .long) wsX5_chance := ⟨B.exec, B.bytes, B.returns, atoms_spec (ws := wsX5_chance) B.pre, findClass_of_methodNamed B.named, B.notSynchronized, hml⟩
  obtain ⟨hx, hb, hr, hts, hown, hlocks, hml⟩ := id C0
  have hD := xSelf hD0
  have hS : va_S (xIn (wM k a mm nn we la si it be pa su wo le pp qq ro lo lp lq rp rq se no ne)) s.heap s.heap [] := va_S.rf
  generalize xIn (wM k a mm nn we la si it be pa su wo le pp qq ro lo lp lq rp rq se no ne) = A at hD hS ⊢
  have hl := lv_entry ([.ref (a 0), .int x1, .int x2, .int x3]) (n := 7) (Nat.le_of_ble_eq_true rfl)
  rw [lg_entry_eq]
  generalize (lg_sl ([.ref (a 0), .int x1, .int x2, .int x3]) ++ List.replicate (7 - (lg_sl ([.ref (a 0), .int x1, .int x2, .int x3])).length) Slot.unset).toArray = ls at hl ⊢
  have hl : lv_has ls 7 [(0, .ref (a 0)), (1, .int x1), (2, .int x2), (3, .int x3)] := hl
  unfold p_X5_chance at hf
  refine lv_iload_n hx hb dX5_chance_0 rfl (lv_at hl 1 rfl) ?_
  refine lv_i2l (v := x1.toInt64) hx hb dX5_chance_1 rfl ?_
  refine lv_lconst (v := 1) hx hb dX5_chance_2 (by decide) ?_
  refine lv_ldc2 (v := 3) hx hb hown (hts _ mb_X5_chance_cl88) dX5_chance_3 ?_
  have hp : xPerm (wM k a mm nn we la si it be pa su wo le pp qq ro lo lp lq rp rq se no ne) (([]) ++ (wM k a mm nn we la si it be pa su wo le pp qq ro lo lp lq rp rq se no ne)) := (List.Perm.refl _)
  refine xCallI (w := []) (r := wM k a mm nn we la si it be pa su wo le pp qq ro lo lp lq rp rq se no ne) (va_runS (As := [.long (x1.toInt64), .long 1, .long 3]) (rest := []) ⟨hx, hb, hml, hown, hts⟩ (c_X5_in (x1.toInt64) 1 3 hf) (va_cwS 3 hts gX5_chance_X5_in rfl rfl rfl (by decide +kernel) ⟨Nat.le_of_ble_eq_true rfl, Nat.le_of_ble_eq_true rfl⟩) (xPreS hG hP hD hp) rfl rfl hl.1 rfl (lv_room (Nat.le_of_ble_eq_true rfl)) dX5_chance_6 ⟨Nat.zero_le _, Nat.zero_le _⟩) hP hD hS hp (fun _ => rfl) (fun r_1 _ H locs hf hP hD hS => ?_)
  have hP : va_P D vwCl (wM k a mm nn we la si it be pa su wo le pp qq ro lo lp lq rp rq se no ne) H := hP
  have hD : va_D A (wM k a mm nn we la si it be pa su wo le pp qq ro lo lp lq rp rq se no ne) := hD
  refine lv_if_eq (tgt := 36) hx hb dX5_chance_9 (by decide) (fun c_2 => ?_) (fun c_2 => ?_)
  · have hf := hf.1 c_2
    refine lv_ldc2 (v := (-1)) hx hb hown (hts _ mb_X5_chance_cl106) dX5_chance_36 ?_
    exact W.lret (v := (-1)) hx hb hr (fun t ht hW => ⟨⟨((-1) : Int64), (no, ne), rfl, hf, xHp ht hP⟩, hS.F ht⟩) hS.2.2 dX5_chance_39 hlocks
  · have hf := hf.2 c_2
    refine lv_iload_n hx hb dX5_chance_12 rfl (lv_at hl 2 rfl) ?_
    refine lv_i2l (v := x2.toInt64) hx hb dX5_chance_13 rfl ?_
    refine lv_lconst (v := 1) hx hb dX5_chance_14 (by decide) ?_
    refine lv_ldc2 (v := 3) hx hb hown (hts _ mb_X5_chance_cl88) dX5_chance_15 ?_
    have hp : xPerm (wM k a mm nn we la si it be pa su wo le pp qq ro lo lp lq rp rq se no ne) (([]) ++ (wM k a mm nn we la si it be pa su wo le pp qq ro lo lp lq rp rq se no ne)) := (List.Perm.refl _)
    refine xCallI (w := []) (r := wM k a mm nn we la si it be pa su wo le pp qq ro lo lp lq rp rq se no ne) (va_runS (As := [.long (x2.toInt64), .long 1, .long 3]) (rest := []) ⟨hx, hb, hml, hown, hts⟩ (c_X5_in (x2.toInt64) 1 3 hf) (va_cwS 3 hts gX5_chance_X5_in rfl rfl rfl (by decide +kernel) ⟨Nat.le_of_ble_eq_true rfl, Nat.le_of_ble_eq_true rfl⟩) (xPreS hG hP hD hp) rfl rfl hl.1 rfl (lv_room (Nat.le_of_ble_eq_true rfl)) dX5_chance_18 ⟨Nat.zero_le _, Nat.zero_le _⟩) hP hD hS hp (fun _ => rfl) (fun r_3 _ H locs hf hP hD hS => ?_)
    have hP : va_P D vwCl (wM k a mm nn we la si it be pa su wo le pp qq ro lo lp lq rp rq se no ne) H := hP
    have hD : va_D A (wM k a mm nn we la si it be pa su wo le pp qq ro lo lp lq rp rq se no ne) := hD
    refine lv_if_eq (tgt := 36) hx hb dX5_chance_21 (by decide) (fun c_4 => ?_) (fun c_4 => ?_)
    · have hf := hf.1 c_4
      refine lv_ldc2 (v := (-1)) hx hb hown (hts _ mb_X5_chance_cl106) dX5_chance_36 ?_
      exact W.lret (v := (-1)) hx hb hr (fun t ht hW => ⟨⟨((-1) : Int64), (no, ne), rfl, hf, xHp ht hP⟩, hS.F ht⟩) hS.2.2 dX5_chance_39 hlocks
    · have hf := hf.2 c_4
      refine lv_iload_n hx hb dX5_chance_24 rfl (lv_at hl 3 rfl) ?_
      refine lv_i2l (v := x3.toInt64) hx hb dX5_chance_25 rfl ?_
      refine lv_lconst (v := 0) hx hb dX5_chance_26 (by decide) ?_
      refine lv_ldc2 (v := 8) hx hb hown (hts _ mb_X5_chance_cl116) dX5_chance_27 ?_
      have hp : xPerm (wM k a mm nn we la si it be pa su wo le pp qq ro lo lp lq rp rq se no ne) (([]) ++ (wM k a mm nn we la si it be pa su wo le pp qq ro lo lp lq rp rq se no ne)) := (List.Perm.refl _)
      refine xCallI (w := []) (r := wM k a mm nn we la si it be pa su wo le pp qq ro lo lp lq rp rq se no ne) (va_runS (As := [.long (x3.toInt64), .long 0, .long 8]) (rest := []) ⟨hx, hb, hml, hown, hts⟩ (c_X5_in (x3.toInt64) 0 8 hf) (va_cwS 3 hts gX5_chance_X5_in rfl rfl rfl (by decide +kernel) ⟨Nat.le_of_ble_eq_true rfl, Nat.le_of_ble_eq_true rfl⟩) (xPreS hG hP hD hp) rfl rfl hl.1 rfl (lv_room (Nat.le_of_ble_eq_true rfl)) dX5_chance_30 ⟨Nat.zero_le _, Nat.zero_le _⟩) hP hD hS hp (fun _ => rfl) (fun r_5 _ H locs hf hP hD hS => ?_)
      have hP : va_P D vwCl (wM k a mm nn we la si it be pa su wo le pp qq ro lo lp lq rp rq se no ne) H := hP
      have hD : va_D A (wM k a mm nn we la si it be pa su wo le pp qq ro lo lp lq rp rq se no ne) := hD
      refine lv_if_ne (tgt := 40) hx hb dX5_chance_33 (by decide) (fun c_6 => ?_) (fun c_6 => ?_)
      · have hf := hf.2 c_6
        refine lv_iconst (v := 0) hx hb dX5_chance_40 (by decide) ?_
        refine lv_istore (lv' := [(4, .int 0), (0, .ref (a 0)), (1, .int x1), (2, .int x2), (3, .int x3)]) hx hb dX5_chance_41 hl (by decide) rfl (fun ls hl => ?_)
        obtain ⟨n_20, hf⟩ := hf
        exact k_X5_chance_43 C0 hG n_20 no ne 0 _ _ _ hf hP hD hS (lv_sub hl [1, 2, 3, 4, 0] rfl)
      · have hf := hf.1 c_6
        refine lv_ldc2 (v := (-1)) hx hb hown (hts _ mb_X5_chance_cl106) dX5_chance_36 ?_
        exact W.lret (v := (-1)) hx hb hr (fun t ht hW => ⟨⟨((-1) : Int64), (no, ne), rfl, hf, xHp ht hP⟩, hS.F ht⟩) hS.2.2 dX5_chance_39 hlocks
