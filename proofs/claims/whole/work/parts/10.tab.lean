def p_X4_isWithin (x0 : Int32) (x1 : Int32) (x2 : Int32) (post : Int32 → Prop) : Prop := ((x0 < x1 → post 0) ∧ (¬ x0 < x1 → ((x2 < x0 → post 0) ∧ (¬ x2 < x0 → post 1))))
set_option maxHeartbeats 4000000 in
set_option maxRecDepth 100000 in
theorem c_X4_isWithin {l : Launch} {D : va_G} {k : Nat → ClassId} (x0 : Int32) (x1 : Int32) (x2 : Int32) {post : Int32 → Prop} (hf : p_X4_isWithin x0 x1 x2 post) : ctI l yX4_isWithin wsX4_isWithin ({ frames := 0, cells := 0, slots := 0, locals := 0 }) D k [.int x0, .int x1, .int x2] ([]) (fun u : Unit => []) (fun (r : Int32) (u : Unit) => post r) := by
  refine Met.ofW (cc := cX4_isWithin) (maxL := 3) (ret := (some .boolean)) (by decide) rfl ?_
  intro p e s m args below meth c s₁ B hml hv
  obtain ⟨rfl, hP, hG, hD0⟩ := hv
  have C0 : xM p s m ([.int x0, .int x1, .int x2] : List Value).toArray meth c cX4_isWithin 3 RX4 (some .boolean) wsX4_isWithin := ⟨B.exec, B.bytes, B.returns, atoms_spec (ws := wsX4_isWithin) B.pre, findClass_of_methodNamed B.named, B.notSynchronized, hml⟩
  obtain ⟨hx, hb, hr, hts, hown, hlocks, hml⟩ := id C0
  have hD := xSelf hD0
  have hS : va_S (xIn ([])) s.heap s.heap [] := va_S.rf
  generalize xIn ([]) = A at hD hS ⊢
  have hl := lv_entry ([.int x0, .int x1, .int x2]) (n := 3) (Nat.le_of_ble_eq_true rfl)
  rw [lg_entry_eq]
  generalize (lg_sl ([.int x0, .int x1, .int x2]) ++ List.replicate (3 - (lg_sl ([.int x0, .int x1, .int x2])).length) Slot.unset).toArray = ls at hl ⊢
  have hl : lv_has ls 3 [(0, .int x0), (1, .int x1), (2, .int x2)] := hl
  unfold p_X4_isWithin at hf
  refine lv_iload_n hx hb dX4_isWithin_0 rfl (lv_at hl 0 rfl) ?_
  refine lv_iload_n hx hb dX4_isWithin_1 rfl (lv_at hl 1 rfl) ?_
  refine lv_icmp_lt (tgt := 14) hx hb dX4_isWithin_2 (by decide) (fun c_1 => ?_) (fun c_1 => ?_)
  · have hf := hf.1 c_1
    refine lv_iconst (v := 0) hx hb dX4_isWithin_14 (by decide) ?_
    exact W.zret (v := 0) hx hb hr rfl (fun t ht hW => ⟨⟨(0 : Int32), (), rfl, hf, xHp ht hP⟩, hS.F ht⟩) hS.2.2 dX4_isWithin_15 hlocks
  · have hf := hf.2 c_1
    refine lv_iload_n hx hb dX4_isWithin_5 rfl (lv_at hl 0 rfl) ?_
    refine lv_iload_n hx hb dX4_isWithin_6 rfl (lv_at hl 2 rfl) ?_
    refine lv_icmp_gt (tgt := 14) hx hb dX4_isWithin_7 (by decide) (fun c_2 => ?_) (fun c_2 => ?_)
    · have hf := hf.1 c_2
      refine lv_iconst (v := 0) hx hb dX4_isWithin_14 (by decide) ?_
      exact W.zret (v := 0) hx hb hr rfl (fun t ht hW => ⟨⟨(0 : Int32), (), rfl, hf, xHp ht hP⟩, hS.F ht⟩) hS.2.2 dX4_isWithin_15 hlocks
    · have hf := hf.2 c_2
      refine lv_iconst (v := 1) hx hb dX4_isWithin_10 (by decide) ?_
      refine lv_goto (tgt := 15) hx hb dX4_isWithin_11 (by decide) ?_
      exact W.zret (v := 1) hx hb hr rfl (fun t ht hW => ⟨⟨(1 : Int32), (), rfl, hf, xHp ht hP⟩, hS.F ht⟩) hS.2.2 dX4_isWithin_15 hlocks

def p_X4_isWeight (x0 : Int64) (post : Int32 → Prop) : Prop := (((lg_cmp x0 0) < 0 → post 0) ∧ (¬ (lg_cmp x0 0) < 0 → ((0 < (lg_cmp x0 20) → post 0) ∧ (¬ 0 < (lg_cmp x0 20) → post 1))))
theorem mb_X4_isWeight_cl196 : Cond.constantLong RX4 196 (20) ∈ wsX4_isWeight := by decide +kernel
set_option maxHeartbeats 4000000 in
set_option maxRecDepth 100000 in
theorem c_X4_isWeight {l : Launch} {D : va_G} {k : Nat → ClassId} (x0 : Int64) {post : Int32 → Prop} (hf : p_X4_isWeight x0 post) : ctI l yX4_isWeight wsX4_isWeight ({ frames := 0, cells := 0, slots := 0, locals := 0 }) D k [.long x0] ([]) (fun u : Unit => []) (fun (r : Int32) (u : Unit) => post r) := by
  refine Met.ofW (cc := cX4_isWeight) (maxL := 2) (ret := (some .boolean)) (by decide) rfl ?_
  intro p e s m args below meth c s₁ B hml hv
  obtain ⟨rfl, hP, hG, hD0⟩ := hv
  have C0 : xM p s m ([.long x0] : List Value).toArray meth c cX4_isWeight 2 RX4 (some .boolean) wsX4_isWeight := ⟨B.exec, B.bytes, B.returns, atoms_spec (ws := wsX4_isWeight) B.pre, findClass_of_methodNamed B.named, B.notSynchronized, hml⟩
  obtain ⟨hx, hb, hr, hts, hown, hlocks, hml⟩ := id C0
  have hD := xSelf hD0
  have hS : va_S (xIn ([])) s.heap s.heap [] := va_S.rf
  generalize xIn ([]) = A at hD hS ⊢
  have hl := lv_entry ([.long x0]) (n := 2) (Nat.le_of_ble_eq_true rfl)
  rw [lg_entry_eq]
  generalize (lg_sl ([.long x0]) ++ List.replicate (2 - (lg_sl ([.long x0])).length) Slot.unset).toArray = ls at hl ⊢
  have hl : lv_has ls 2 [(0, .long x0)] := hl
  unfold p_X4_isWeight at hf
  refine lv_lload_n hx hb dX4_isWeight_0 rfl (lv_at hl 0 rfl) ?_
  refine lv_lconst (v := 0) hx hb dX4_isWeight_1 (by decide) ?_
  refine W.lcmp hx hb dX4_isWeight_2 ?_
  refine lv_if_lt (tgt := 18) hx hb dX4_isWeight_3 (by decide) (fun c_1 => ?_) (fun c_1 => ?_)
  · have hf := hf.1 c_1
    refine lv_iconst (v := 0) hx hb dX4_isWeight_18 (by decide) ?_
    exact W.zret (v := 0) hx hb hr rfl (fun t ht hW => ⟨⟨(0 : Int32), (), rfl, hf, xHp ht hP⟩, hS.F ht⟩) hS.2.2 dX4_isWeight_19 hlocks
  · have hf := hf.2 c_1
    refine lv_lload_n hx hb dX4_isWeight_6 rfl (lv_at hl 0 rfl) ?_
    refine lv_ldc2 (v := 20) hx hb hown (hts _ mb_X4_isWeight_cl196) dX4_isWeight_7 ?_
    refine W.lcmp hx hb dX4_isWeight_10 ?_
    refine lv_if_gt (tgt := 18) hx hb dX4_isWeight_11 (by decide) (fun c_2 => ?_) (fun c_2 => ?_)
    · have hf := hf.1 c_2
      refine lv_iconst (v := 0) hx hb dX4_isWeight_18 (by decide) ?_
      exact W.zret (v := 0) hx hb hr rfl (fun t ht hW => ⟨⟨(0 : Int32), (), rfl, hf, xHp ht hP⟩, hS.F ht⟩) hS.2.2 dX4_isWeight_19 hlocks
    · have hf := hf.2 c_2
      refine lv_iconst (v := 1) hx hb dX4_isWeight_14 (by decide) ?_
      refine lv_goto (tgt := 19) hx hb dX4_isWeight_15 (by decide) ?_
      exact W.zret (v := 1) hx hb hr rfl (fun t ht hW => ⟨⟨(1 : Int32), (), rfl, hf, xHp ht hP⟩, hS.F ht⟩) hS.2.2 dX4_isWeight_19 hlocks

def p_J7_fill_53178_5 (nA : Nat) (x1 : Int32) (post : (Nat → Int32) → Prop) : Nat → (Nat → Int32) → Int32 → Int32 → Prop
  | 0, _, _, _ => False
  | n + 1, f, x2, x3 => ((x3 ≤ x2 → post f) ∧ (¬ x3 ≤ x2 → (vp_in x2 nA ∧ p_J7_fill_53178_5 nA x1 post n (upd f (x2.toNatClampNeg) x1) (x2 + 1) x3)))
def p_J7_fill_53178 (nA : Nat) (f : Nat → Int32) (x1 : Int32) (post : (Nat → Int32) → Prop) : Prop := (∃ n_3, p_J7_fill_53178_5 nA x1 post n_3 f 0 (nI nA))
set_option maxHeartbeats 4000000 in
set_option maxRecDepth 100000 in
theorem k_J7_fill_53178_5 {p : Program} {l : Launch} {e : Env} {s : State} {m : MethodId} {args : Array Value} {below : List Frame} {meth : Method} {c : Code} {A : Nat → Prop} {D : va_G} {k : Nat → ClassId} {d : Nat} {nA : Nat} {x1 : Int32} (C0 : xM p s m args meth c cJ7_fill_53178 4 RJ7 none wsJ7_fill_53178) (hG : xG D k s) {post : (Nat → Int32) → Prop} : ∀ (n : Nat) (f : Nat → Int32) (x2 : Int32) (x3 : Int32) (H : Heap) (locs : List Loc) (ls : Array Slot), p_J7_fill_53178_5 nA x1 post n f x2 x3 → va_P D vwCl ([((d, .inl (k 0, nA, .inl f)) : Nat × va_E)]) H → va_D A ([((d, .inl (k 0, nA, .inl f)) : Nat × va_E)]) → va_S A s.heap H locs → lv_has ls 4 [(0, .ref d), (1, .int x1), (2, .int x2), (3, .int x3)] → W p l e ({ frames := 0, cells := 0, slots := 0, locals := 0 }) s m args below meth c H locs 0 0 (MQ below (va_Qv (fun (u : (Nat → Int32)) => post u) (fun u t => va_P D vwCl ([((d, .inl (k 0, nA, .inl u)) : Nat × va_E)]) t.heap) A) args s 0 0 A) (F0 m 5 ls []) := by
  obtain ⟨hx, hb, hr, hts, hown, hlocks, hml⟩ := id C0
  intro n
  induction n with
  | zero =>
    intro f x2 x3 H locs ls hf
    exact False.elim hf
  | succ n ih =>
    intro f x2 x3 H locs ls hf hP hD hS hl
    unfold p_J7_fill_53178_5 at hf
    refine lv_iload_n hx hb dJ7_fill_53178_5 rfl (lv_at hl 2 rfl) ?_
    refine lv_iload_n hx hb dJ7_fill_53178_6 rfl (lv_at hl 3 rfl) ?_
    refine lv_icmp_ge (tgt := 20) hx hb dJ7_fill_53178_7 (by decide) (fun c_1 => ?_) (fun c_1 => ?_)
    · have hf := hf.1 c_1
      exact W.vret hx hb hr (fun t ht hW => ⟨⟨f, rfl, hf, xHp ht hP⟩, hS.F ht⟩) hS.2.2 dJ7_fill_53178_20 hlocks
    · have hf := hf.2 c_1
      refine lv_aload_n hx hb dJ7_fill_53178_10 rfl (lv_at hl 0 rfl) ?_
      refine lv_iload_n hx hb dJ7_fill_53178_11 rfl (lv_at hl 2 rfl) ?_
      refine lv_iload_n hx hb dJ7_fill_53178_12 rfl (lv_at hl 1 rfl) ?_
      obtain ⟨h_2, hf⟩ := hf
      refine va_iast hx hb hG.1 hP hD hS 0 0 rfl rfl h_2 dJ7_fill_53178_13 (fun H locs hP hD hS => ?_)
      have hP : va_P D vwCl ([((d, .inl (k 0, nA, .inl (upd f (x2.toNatClampNeg) x1))) : Nat × va_E)]) H := hP
      have hD : va_D A ([((d, .inl (k 0, nA, .inl (upd f (x2.toNatClampNeg) x1))) : Nat × va_E)]) := hD
      refine lv_iinc (v := x2 + 1) (lv' := [(2, .int (x2 + 1)), (0, .ref d), (1, .int x1), (3, .int x3)]) hx hb dJ7_fill_53178_14 hl (k := 2) rfl rfl (by decide) rfl (fun ls hl => ?_)
      refine lv_goto (tgt := 5) hx hb dJ7_fill_53178_17 (by decide) ?_
      exact ih (upd f (x2.toNatClampNeg) x1) (x2 + 1) x3 _ _ _ hf hP hD hS (lv_sub hl [1, 2, 0, 3] rfl)
set_option maxHeartbeats 4000000 in
set_option maxRecDepth 100000 in
theorem c_J7_fill_53178 {l : Launch} {D : va_G} {k : Nat → ClassId} (d : Nat) (nA : Nat) (f : Nat → Int32) (x1 : Int32) {post : (Nat → Int32) → Prop} (hf : p_J7_fill_53178 nA f x1 post) : ctV l yJ7_fill_53178 wsJ7_fill_53178 ({ frames := 0, cells := 0, slots := 0, locals := 0 }) D k [.ref d, .int x1] ([((d, .inl (k 0, nA, .inl f)) : Nat × va_E)]) (fun u : (Nat → Int32) => [((d, .inl (k 0, nA, .inl u)) : Nat × va_E)]) (fun (u : (Nat → Int32)) => post u) := by
  refine Met.ofW (cc := cJ7_fill_53178) (maxL := 4) (ret := none) (by decide) rfl ?_
  intro p e s m args below meth c s₁ B hml hv
  obtain ⟨rfl, hP, hG, hD0⟩ := hv
  have C0 : xM p s m ([.ref d, .int x1] : List Value).toArray meth c cJ7_fill_53178 4 RJ7 none wsJ7_fill_53178 := ⟨B.exec, B.bytes, B.returns, atoms_spec (ws := wsJ7_fill_53178) B.pre, findClass_of_methodNamed B.named, B.notSynchronized, hml⟩
  obtain ⟨hx, hb, hr, hts, hown, hlocks, hml⟩ := id C0
  have hD := xSelf hD0
  have hS : va_S (xIn ([((d, .inl (k 0, nA, .inl f)) : Nat × va_E)])) s.heap s.heap [] := va_S.rf
  generalize xIn ([((d, .inl (k 0, nA, .inl f)) : Nat × va_E)]) = A at hD hS ⊢
  have hl := lv_entry ([.ref d, .int x1]) (n := 4) (Nat.le_of_ble_eq_true rfl)
  rw [lg_entry_eq]
  generalize (lg_sl ([.ref d, .int x1]) ++ List.replicate (4 - (lg_sl ([.ref d, .int x1])).length) Slot.unset).toArray = ls at hl ⊢
  have hl : lv_has ls 4 [(0, .ref d), (1, .int x1)] := hl
  unfold p_J7_fill_53178 at hf
  refine lv_iconst (v := 0) hx hb dJ7_fill_53178_0 (by decide) ?_
  refine lv_istore_n (lv' := [(2, .int 0), (0, .ref d), (1, .int x1)]) hx hb dJ7_fill_53178_1 rfl hl (by decide) rfl (fun ls hl => ?_)
  refine lv_aload_n hx hb dJ7_fill_53178_2 rfl (lv_at hl 1 rfl) ?_
  refine va_alen (v := nI nA) hx hb hG.1 hP 0 0 rfl rfl rfl dJ7_fill_53178_3 ?_
  refine lv_istore_n (lv' := [(3, .int (nI nA)), (2, .int 0), (0, .ref d), (1, .int x1)]) hx hb dJ7_fill_53178_4 rfl hl (by decide) rfl (fun ls hl => ?_)
  obtain ⟨n_3, hf⟩ := hf
  exact k_J7_fill_53178_5 C0 hG n_3 f 0 (nI nA) _ _ _ hf hP hD hS (lv_sub hl [2, 3, 1, 0] rfl)

def p_J7_fill_d0a16_6 (nA : Nat) (x1 : Int64) (post : (Nat → Int64) → Prop) : Nat → (Nat → Int64) → Int32 → Int32 → Prop
  | 0, _, _, _ => False
  | n + 1, f, x3, x4 => ((x4 ≤ x3 → post f) ∧ (¬ x4 ≤ x3 → (vp_in x3 nA ∧ p_J7_fill_d0a16_6 nA x1 post n (vp_updL f (x3.toNatClampNeg) x1) (x3 + 1) x4)))
def p_J7_fill_d0a16 (nA : Nat) (f : Nat → Int64) (x1 : Int64) (post : (Nat → Int64) → Prop) : Prop := (∃ n_3, p_J7_fill_d0a16_6 nA x1 post n_3 f 0 (nI nA))
set_option maxHeartbeats 4000000 in
set_option maxRecDepth 100000 in
theorem k_J7_fill_d0a16_6 {p : Program} {l : Launch} {e : Env} {s : State} {m : MethodId} {args : Array Value} {below : List Frame} {meth : Method} {c : Code} {A : Nat → Prop} {D : va_G} {k : Nat → ClassId} {d : Nat} {nA : Nat} {x1 : Int64} (C0 : xM p s m args meth c cJ7_fill_d0a16 5 RJ7 none wsJ7_fill_d0a16) (hG : xG D k s) {post : (Nat → Int64) → Prop} : ∀ (n : Nat) (f : Nat → Int64) (x3 : Int32) (x4 : Int32) (H : Heap) (locs : List Loc) (ls : Array Slot), p_J7_fill_d0a16_6 nA x1 post n f x3 x4 → va_P D vwCl ([((d, .inl (k 1, nA, .inr (.inl f))) : Nat × va_E)]) H → va_D A ([((d, .inl (k 1, nA, .inr (.inl f))) : Nat × va_E)]) → va_S A s.heap H locs → lv_has ls 5 [(0, .ref d), (1, .long x1), (3, .int x3), (4, .int x4)] → W p l e ({ frames := 0, cells := 0, slots := 0, locals := 0 }) s m args below meth c H locs 0 0 (MQ below (va_Qv (fun (u : (Nat → Int64)) => post u) (fun u t => va_P D vwCl ([((d, .inl (k 1, nA, .inr (.inl u))) : Nat × va_E)]) t.heap) A) args s 0 0 A) (F0 m 6 ls []) := by
  obtain ⟨hx, hb, hr, hts, hown, hlocks, hml⟩ := id C0
  intro n
  induction n with
  | zero =>
    intro f x3 x4 H locs ls hf
    exact False.elim hf
  | succ n ih =>
    intro f x3 x4 H locs ls hf hP hD hS hl
    unfold p_J7_fill_d0a16_6 at hf
    refine lv_iload_n hx hb dJ7_fill_d0a16_6 rfl (lv_at hl 2 rfl) ?_
    refine lv_iload hx hb dJ7_fill_d0a16_7 (lv_at hl 3 rfl) ?_
    refine lv_icmp_ge (tgt := 22) hx hb dJ7_fill_d0a16_9 (by decide) (fun c_1 => ?_) (fun c_1 => ?_)
    · have hf := hf.1 c_1
      exact W.vret hx hb hr (fun t ht hW => ⟨⟨f, rfl, hf, xHp ht hP⟩, hS.F ht⟩) hS.2.2 dJ7_fill_d0a16_22 hlocks
    · have hf := hf.2 c_1
      refine lv_aload_n hx hb dJ7_fill_d0a16_12 rfl (lv_at hl 0 rfl) ?_
      refine lv_iload_n hx hb dJ7_fill_d0a16_13 rfl (lv_at hl 2 rfl) ?_
      refine lv_lload_n hx hb dJ7_fill_d0a16_14 rfl (lv_at hl 1 rfl) ?_
      obtain ⟨h_2, hf⟩ := hf
      refine va_last hx hb hG.1 hP hD hS 0 1 rfl rfl h_2 dJ7_fill_d0a16_15 (fun H locs hP hD hS => ?_)
      have hP : va_P D vwCl ([((d, .inl (k 1, nA, .inr (.inl (vp_updL f (x3.toNatClampNeg) x1)))) : Nat × va_E)]) H := hP
      have hD : va_D A ([((d, .inl (k 1, nA, .inr (.inl (vp_updL f (x3.toNatClampNeg) x1)))) : Nat × va_E)]) := hD
      refine lv_iinc (v := x3 + 1) (lv' := [(3, .int (x3 + 1)), (0, .ref d), (1, .long x1), (4, .int x4)]) hx hb dJ7_fill_d0a16_16 hl (k := 2) rfl rfl (by decide) rfl (fun ls hl => ?_)
      refine lv_goto (tgt := 6) hx hb dJ7_fill_d0a16_19 (by decide) ?_
      exact ih (vp_updL f (x3.toNatClampNeg) x1) (x3 + 1) x4 _ _ _ hf hP hD hS (lv_sub hl [1, 2, 0, 3] rfl)
set_option maxHeartbeats 4000000 in
set_option maxRecDepth 100000 in
theorem c_J7_fill_d0a16 {l : Launch} {D : va_G} {k : Nat → ClassId} (d : Nat) (nA : Nat) (f : Nat → Int64) (x1 : Int64) {post : (Nat → Int64) → Prop} (hf : p_J7_fill_d0a16 nA f x1 post) : ctV l yJ7_fill_d0a16 wsJ7_fill_d0a16 ({ frames := 0, cells := 0, slots := 0, locals := 0 }) D k [.ref d, .long x1] ([((d, .inl (k 1, nA, .inr (.inl f))) : Nat × va_E)]) (fun u : (Nat → Int64) => [((d, .inl (k 1, nA, .inr (.inl u))) : Nat × va_E)]) (fun (u : (Nat → Int64)) => post u) := by
  refine Met.ofW (cc := cJ7_fill_d0a16) (maxL := 5) (ret := none) (by decide) rfl ?_
  intro p e s m args below meth c s₁ B hml hv
  obtain ⟨rfl, hP, hG, hD0⟩ := hv
  have C0 : xM p s m ([.ref d, .long x1] : List Value).toArray meth c cJ7_fill_d0a16 5 RJ7 none wsJ7_fill_d0a16 := ⟨B.exec, B.bytes, B.returns, atoms_spec (ws := wsJ7_fill_d0a16) B.pre, findClass_of_methodNamed B.named, B.notSynchronized, hml⟩
  obtain ⟨hx, hb, hr, hts, hown, hlocks, hml⟩ := id C0
  have hD := xSelf hD0
  have hS : va_S (xIn ([((d, .inl (k 1, nA, .inr (.inl f))) : Nat × va_E)])) s.heap s.heap [] := va_S.rf
  generalize xIn ([((d, .inl (k 1, nA, .inr (.inl f))) : Nat × va_E)]) = A at hD hS ⊢
  have hl := lv_entry ([.ref d, .long x1]) (n := 5) (Nat.le_of_ble_eq_true rfl)
  rw [lg_entry_eq]
  generalize (lg_sl ([.ref d, .long x1]) ++ List.replicate (5 - (lg_sl ([.ref d, .long x1])).length) Slot.unset).toArray = ls at hl ⊢
  have hl : lv_has ls 5 [(0, .ref d), (1, .long x1)] := hl
  unfold p_J7_fill_d0a16 at hf
  refine lv_iconst (v := 0) hx hb dJ7_fill_d0a16_0 (by decide) ?_
  refine lv_istore_n (lv' := [(3, .int 0), (0, .ref d), (1, .long x1)]) hx hb dJ7_fill_d0a16_1 rfl hl (by decide) rfl (fun ls hl => ?_)
  refine lv_aload_n hx hb dJ7_fill_d0a16_2 rfl (lv_at hl 1 rfl) ?_
  refine va_alen (v := nI nA) hx hb hG.1 hP 0 1 rfl rfl rfl dJ7_fill_d0a16_3 ?_
  refine lv_istore (lv' := [(4, .int (nI nA)), (3, .int 0), (0, .ref d), (1, .long x1)]) hx hb dJ7_fill_d0a16_4 hl (by decide) rfl (fun ls hl => ?_)
  obtain ⟨n_3, hf⟩ := hf
  exact k_J7_fill_d0a16_6 C0 hG n_3 f 0 (nI nA) _ _ _ hf hP hD hS (lv_sub hl [2, 3, 1, 0] rfl)

def p_X2_rowCount (R : Int32) (post : Int32 → Prop) : Prop := post R
theorem in_X2_rowCount_X2 : ∀ w ∈ u_ws RX2 TX2 4, w ∈ wsX2_rowCount := by decide +kernel
theorem lk_X2_rowCount_20 : Cond.fieldLink RX2 20 "GrowingCorners$Tableau" "rows" "I" ∈ wsX2_rowCount := by decide +kernel
set_option maxHeartbeats 4000000 in
set_option maxRecDepth 100000 in
theorem c_X2_rowCount {l : Launch} {D : va_G} {k : Nat → ClassId} (a : Nat → Nat) (R : Int32) (P : Int32) (L : Nat → Int32) (N : Nat → Nat → Int32) {post : Int32 → Prop} (hf : p_X2_rowCount R post) : ctI l yX2_rowCount wsX2_rowCount ({ frames := 0, cells := 0, slots := 0, locals := 0 }) D k [.ref (a 0)] (wT k a R P L N) (fun u : Unit => wT k a R P L N) (fun (r : Int32) (u : Unit) => post r) := by
  refine Met.ofW (cc := cX2_rowCount) (maxL := 1) (ret := (some .int)) (by decide) rfl ?_
  intro p e s m args below meth c s₁ B hml hv
  obtain ⟨rfl, hP, hG, hD0⟩ := hv
  have C0 : xM p s m ([.ref (a 0)] : List Value).toArray meth c cX2_rowCount 1 RX2 (some .int) wsX2_rowCount := ⟨B.exec, B.bytes, B.returns, atoms_spec (ws := wsX2_rowCount) B.pre, findClass_of_methodNamed B.named, B.notSynchronized, hml⟩
  obtain ⟨hx, hb, hr, hts, hown, hlocks, hml⟩ := id C0
  have hD := xSelf hD0
  have hS : va_S (xIn (wT k a R P L N)) s.heap s.heap [] := va_S.rf
  generalize xIn (wT k a R P L N) = A at hD hS ⊢
  have hl := lv_entry ([.ref (a 0)]) (n := 1) (Nat.le_of_ble_eq_true rfl)
  rw [lg_entry_eq]
  generalize (lg_sl ([.ref (a 0)]) ++ List.replicate (1 - (lg_sl ([.ref (a 0)])).length) Slot.unset).toArray = ls at hl ⊢
  have hl : lv_has ls 1 [(0, .ref (a 0))] := hl
  unfold p_X2_rowCount at hf
  refine lv_aload_n hx hb dX2_rowCount_0 rfl (lv_at hl 0 rfl) ?_
  refine va_get (D := D) (ci := 2) (C := RX2) (T := TX2) (N := 4) hx hb hts in_X2_rowCount_X2 hown hG.1 hP 0 rfl rfl 2 (by decide) (hts _ lk_X2_rowCount_20) (fun _ h9 => h9) rfl dX2_rowCount_1 ?_
  exact W.iret (v := R) hx hb hr (fun t ht hW => ⟨⟨R, (), rfl, hf, xHp ht hP⟩, hS.F ht⟩) hS.2.2 dX2_rowCount_4 hlocks

def p_X2_placeCount (P : Int32) (post : Int32 → Prop) : Prop := post P
theorem in_X2_placeCount_X2 : ∀ w ∈ u_ws RX2 TX2 4, w ∈ wsX2_placeCount := by decide +kernel
theorem lk_X2_placeCount_24 : Cond.fieldLink RX2 24 "GrowingCorners$Tableau" "places" "I" ∈ wsX2_placeCount := by decide +kernel
set_option maxHeartbeats 4000000 in
set_option maxRecDepth 100000 in
theorem c_X2_placeCount {l : Launch} {D : va_G} {k : Nat → ClassId} (a : Nat → Nat) (R : Int32) (P : Int32) (L : Nat → Int32) (N : Nat → Nat → Int32) {post : Int32 → Prop} (hf : p_X2_placeCount P post) : ctI l yX2_placeCount wsX2_placeCount ({ frames := 0, cells := 0, slots := 0, locals := 0 }) D k [.ref (a 0)] (wT k a R P L N) (fun u : Unit => wT k a R P L N) (fun (r : Int32) (u : Unit) => post r) := by
  refine Met.ofW (cc := cX2_placeCount) (maxL := 1) (ret := (some .int)) (by decide) rfl ?_
  intro p e s m args below meth c s₁ B hml hv
  obtain ⟨rfl, hP, hG, hD0⟩ := hv
  have C0 : xM p s m ([.ref (a 0)] : List Value).toArray meth c cX2_placeCount 1 RX2 (some .int) wsX2_placeCount := ⟨B.exec, B.bytes, B.returns, atoms_spec (ws := wsX2_placeCount) B.pre, findClass_of_methodNamed B.named, B.notSynchronized, hml⟩
  obtain ⟨hx, hb, hr, hts, hown, hlocks, hml⟩ := id C0
  have hD := xSelf hD0
  have hS : va_S (xIn (wT k a R P L N)) s.heap s.heap [] := va_S.rf
  generalize xIn (wT k a R P L N) = A at hD hS ⊢
  have hl := lv_entry ([.ref (a 0)]) (n := 1) (Nat.le_of_ble_eq_true rfl)
  rw [lg_entry_eq]
  generalize (lg_sl ([.ref (a 0)]) ++ List.replicate (1 - (lg_sl ([.ref (a 0)])).length) Slot.unset).toArray = ls at hl ⊢
  have hl : lv_has ls 1 [(0, .ref (a 0))] := hl
  unfold p_X2_placeCount at hf
  refine lv_aload_n hx hb dX2_placeCount_0 rfl (lv_at hl 0 rfl) ?_
  refine va_get (D := D) (ci := 2) (C := RX2) (T := TX2) (N := 4) hx hb hts in_X2_placeCount_X2 hown hG.1 hP 0 rfl rfl 3 (by decide) (hts _ lk_X2_placeCount_24) (fun _ h9 => h9) rfl dX2_placeCount_1 ?_
  exact W.iret (v := P) hx hb hr (fun t ht hW => ⟨⟨P, (), rfl, hf, xHp ht hP⟩, hS.F ht⟩) hS.2.2 dX2_placeCount_4 hlocks

def p_X2_lengthOf (L : Nat → Int32) (x1 : Int32) (post : Int32 → Prop) : Prop := ((x1 < 0 → post 0) ∧ (¬ x1 < 0 → ((9 ≤ x1 → post 0) ∧ (¬ 9 ≤ x1 → (vp_in x1 9 ∧ post (L x1.toNatClampNeg))))))
theorem in_X2_lengthOf_X2 : ∀ w ∈ u_ws RX2 TX2 4, w ∈ wsX2_lengthOf := by decide +kernel
theorem lk_X2_lengthOf_16 : Cond.fieldLink RX2 16 "GrowingCorners$Tableau" "lengths" "[I" ∈ wsX2_lengthOf := by decide +kernel
set_option maxHeartbeats 4000000 in
set_option maxRecDepth 100000 in
theorem c_X2_lengthOf {l : Launch} {D : va_G} {k : Nat → ClassId} (a : Nat → Nat) (R : Int32) (P : Int32) (L : Nat → Int32) (N : Nat → Nat → Int32) (x1 : Int32) {post : Int32 → Prop} (hf : p_X2_lengthOf L x1 post) : ctI l yX2_lengthOf wsX2_lengthOf ({ frames := 0, cells := 0, slots := 0, locals := 0 }) D k [.ref (a 0), .int x1] (wT k a R P L N) (fun u : Unit => wT k a R P L N) (fun (r : Int32) (u : Unit) => post r) := by
  refine Met.ofW (cc := cX2_lengthOf) (maxL := 2) (ret := (some .int)) (by decide) rfl ?_
  intro p e s m args below meth c s₁ B hml hv
  obtain ⟨rfl, hP, hG, hD0⟩ := hv
  have C0 : xM p s m ([.ref (a 0), .int x1] : List Value).toArray meth c cX2_lengthOf 2 RX2 (some .int) wsX2_lengthOf := ⟨B.exec, B.bytes, B.returns, atoms_spec (ws := wsX2_lengthOf) B.pre, findClass_of_methodNamed B.named, B.notSynchronized, hml⟩
  obtain ⟨hx, hb, hr, hts, hown, hlocks, hml⟩ := id C0
  have hD := xSelf hD0
  have hS : va_S (xIn (wT k a R P L N)) s.heap s.heap [] := va_S.rf
  generalize xIn (wT k a R P L N) = A at hD hS ⊢
  have hl := lv_entry ([.ref (a 0), .int x1]) (n := 2) (Nat.le_of_ble_eq_true rfl)
  rw [lg_entry_eq]
  generalize (lg_sl ([.ref (a 0), .int x1]) ++ List.replicate (2 - (lg_sl ([.ref (a 0), .int x1])).length) Slot.unset).toArray = ls at hl ⊢
  have hl : lv_has ls 2 [(0, .ref (a 0)), (1, .int x1)] := hl
  unfold p_X2_lengthOf at hf
  refine lv_iload_n hx hb dX2_lengthOf_0 rfl (lv_at hl 1 rfl) ?_
  refine lv_if_lt (tgt := 19) hx hb dX2_lengthOf_1 (by decide) (fun c_1 => ?_) (fun c_1 => ?_)
  · have hf := hf.1 c_1
    refine lv_iconst (v := 0) hx hb dX2_lengthOf_19 (by decide) ?_
    exact W.iret (v := 0) hx hb hr (fun t ht hW => ⟨⟨(0 : Int32), (), rfl, hf, xHp ht hP⟩, hS.F ht⟩) hS.2.2 dX2_lengthOf_20 hlocks
  · have hf := hf.2 c_1
    refine lv_iload_n hx hb dX2_lengthOf_4 rfl (lv_at hl 1 rfl) ?_
    refine lv_bipush (v := 9) hx hb dX2_lengthOf_5 (by decide) ?_
    refine lv_icmp_ge (tgt := 19) hx hb dX2_lengthOf_7 (by decide) (fun c_2 => ?_) (fun c_2 => ?_)
    · have hf := hf.1 c_2
      refine lv_iconst (v := 0) hx hb dX2_lengthOf_19 (by decide) ?_
      exact W.iret (v := 0) hx hb hr (fun t ht hW => ⟨⟨(0 : Int32), (), rfl, hf, xHp ht hP⟩, hS.F ht⟩) hS.2.2 dX2_lengthOf_20 hlocks
    · have hf := hf.2 c_2
      refine lv_aload_n hx hb dX2_lengthOf_10 rfl (lv_at hl 0 rfl) ?_
      refine va_get (D := D) (ci := 2) (C := RX2) (T := TX2) (N := 4) hx hb hts in_X2_lengthOf_X2 hown hG.1 hP 0 rfl rfl 1 (by decide) (hts _ lk_X2_lengthOf_16) (fun _ h9 => h9) rfl dX2_lengthOf_11 ?_
      refine lv_iload_n hx hb dX2_lengthOf_14 rfl (lv_at hl 1 rfl) ?_
      obtain ⟨h_3, hf⟩ := hf
      refine va_iald hx hb hG.1 hP 2 0 rfl rfl h_3 dX2_lengthOf_15 ?_
      refine lv_goto (tgt := 20) hx hb dX2_lengthOf_16 (by decide) ?_
      exact W.iret (v := (L x1.toNatClampNeg)) hx hb hr (fun t ht hW => ⟨⟨(L x1.toNatClampNeg), (), rfl, hf, xHp ht hP⟩, hS.F ht⟩) hS.2.2 dX2_lengthOf_20 hlocks

def p_X2_has (L : Nat → Int32) (x1 : Int32) (x2 : Int32) (post : Int32 → Prop) : Prop := ((x2 < 0 → post 0) ∧ (¬ x2 < 0 → p_X2_lengthOf L x1 (fun r_2 => ((r_2 ≤ x2 → post 0) ∧ (¬ r_2 ≤ x2 → post 1)))))
set_option maxHeartbeats 4000000 in
set_option maxRecDepth 100000 in
theorem c_X2_has {l : Launch} {D : va_G} {k : Nat → ClassId} (a : Nat → Nat) (R : Int32) (P : Int32) (L : Nat → Int32) (N : Nat → Nat → Int32) (x1 : Int32) (x2 : Int32) {post : Int32 → Prop} (hf : p_X2_has L x1 x2 post) : ctI l yX2_has wsX2_has ({ frames := 1, cells := 0, slots := 0, locals := 21 }) D k [.ref (a 0), .int x1, .int x2] (wT k a R P L N) (fun u : Unit => wT k a R P L N) (fun (r : Int32) (u : Unit) => post r) := by
  refine Met.ofW (cc := cX2_has) (maxL := 3) (ret := (some .boolean)) (by decide) rfl ?_
  intro p e s m args below meth c s₁ B hml hv
  obtain ⟨rfl, hP, hG, hD0⟩ := hv
  have C0 : xM p s m ([.ref (a 0), .int x1, .int x2] : List Value).toArray meth c cX2_has 3 RX2 (some .boolean) wsX2_has := ⟨B.exec, B.bytes, B.returns, atoms_spec (ws := wsX2_has) B.pre, findClass_of_methodNamed B.named, B.notSynchronized, hml⟩
  obtain ⟨hx, hb, hr, hts, hown, hlocks, hml⟩ := id C0
  have hD := xSelf hD0
  have hS : va_S (xIn (wT k a R P L N)) s.heap s.heap [] := va_S.rf
  generalize xIn (wT k a R P L N) = A at hD hS ⊢
  have hl := lv_entry ([.ref (a 0), .int x1, .int x2]) (n := 3) (Nat.le_of_ble_eq_true rfl)
  rw [lg_entry_eq]
  generalize (lg_sl ([.ref (a 0), .int x1, .int x2]) ++ List.replicate (3 - (lg_sl ([.ref (a 0), .int x1, .int x2])).length) Slot.unset).toArray = ls at hl ⊢
  have hl : lv_has ls 3 [(0, .ref (a 0)), (1, .int x1), (2, .int x2)] := hl
  unfold p_X2_has at hf
  refine lv_iload_n hx hb dX2_has_0 rfl (lv_at hl 2 rfl) ?_
  refine lv_if_lt (tgt := 17) hx hb dX2_has_1 (by decide) (fun c_1 => ?_) (fun c_1 => ?_)
  · have hf := hf.1 c_1
    refine lv_iconst (v := 0) hx hb dX2_has_17 (by decide) ?_
    exact W.zret (v := 0) hx hb hr rfl (fun t ht hW => ⟨⟨(0 : Int32), (), rfl, hf, xHp ht hP⟩, hS.F ht⟩) hS.2.2 dX2_has_18 hlocks
  · have hf := hf.2 c_1
    refine lv_iload_n hx hb dX2_has_4 rfl (lv_at hl 2 rfl) ?_
    refine lv_aload_n hx hb dX2_has_5 rfl (lv_at hl 0 rfl) ?_
    refine lv_iload_n hx hb dX2_has_6 rfl (lv_at hl 1 rfl) ?_
    have hp : xPerm (wT k a R P L N) ((wT k a R P L N) ++ ([])) := xPermNil
    refine xCallI (w := wT k a R P L N) (r := []) (va_runV (As := [.int x1]) (rest := [.int x2]) ⟨hx, hb, hml, hown, hts⟩ (c_X2_lengthOf a R P L N x1 hf) (cwV 1 hts gX2_has_X2_lengthOf rfl rfl rfl (by decide +kernel) ⟨Nat.le_of_ble_eq_true rfl, Nat.le_of_ble_eq_true rfl⟩) (xPreV hG hP hD hp (ci := 2) rfl (i := 0) rfl) rfl rfl hl.1 rfl (lv_room (Nat.le_of_ble_eq_true rfl)) dX2_has_7 ⟨Nat.zero_le _, Nat.zero_le _⟩) hP hD hS hp (fun _ => wT_adr) (fun r_2 _ H locs hf hP hD hS => ?_)
    have hP : va_P D vwCl (wT k a R P L N) H := xNilP hP
    have hD : va_D A (wT k a R P L N) := xNilD hD
    refine lv_icmp_ge (tgt := 17) hx hb dX2_has_10 (by decide) (fun c_3 => ?_) (fun c_3 => ?_)
    · have hf := hf.1 c_3
      refine lv_iconst (v := 0) hx hb dX2_has_17 (by decide) ?_
      exact W.zret (v := 0) hx hb hr rfl (fun t ht hW => ⟨⟨(0 : Int32), (), rfl, hf, xHp ht hP⟩, hS.F ht⟩) hS.2.2 dX2_has_18 hlocks
    · have hf := hf.2 c_3
      refine lv_iconst (v := 1) hx hb dX2_has_13 (by decide) ?_
      refine lv_goto (tgt := 18) hx hb dX2_has_14 (by decide) ?_
      exact W.zret (v := 1) hx hb hr rfl (fun t ht hW => ⟨⟨(1 : Int32), (), rfl, hf, xHp ht hP⟩, hS.F ht⟩) hS.2.2 dX2_has_18 hlocks

def p_X2_at (L : Nat → Int32) (N : Nat → Nat → Int32) (x1 : Int32) (x2 : Int32) (post : Int32 → Prop) : Prop := p_X2_has L x1 x2 (fun r_1 => ((r_1 = 0 → post 0) ∧ (¬ r_1 = 0 → (vp_in x1 9 ∧ (vp_in x2 40 ∧ post (N (x1.toNatClampNeg) x2.toNatClampNeg))))))
theorem in_X2_at_X2 : ∀ w ∈ u_ws RX2 TX2 4, w ∈ wsX2_at := by decide +kernel
theorem lk_X2_at_11 : Cond.fieldLink RX2 11 "GrowingCorners$Tableau" "numbers" "[[I" ∈ wsX2_at := by decide +kernel
set_option maxHeartbeats 4000000 in
set_option maxRecDepth 100000 in
theorem c_X2_at {l : Launch} {D : va_G} {k : Nat → ClassId} (a : Nat → Nat) (R : Int32) (P : Int32) (L : Nat → Int32) (N : Nat → Nat → Int32) (x1 : Int32) (x2 : Int32) {post : Int32 → Prop} (hf : p_X2_at L N x1 x2 post) : ctI l yX2_at wsX2_at ({ frames := 2, cells := 0, slots := 0, locals := 43 }) D k [.ref (a 0), .int x1, .int x2] (wT k a R P L N) (fun u : Unit => wT k a R P L N) (fun (r : Int32) (u : Unit) => post r) := by
  refine Met.ofW (cc := cX2_at) (maxL := 3) (ret := (some .int)) (by decide) rfl ?_
  intro p e s m args below meth c s₁ B hml hv
  obtain ⟨rfl, hP, hG, hD0⟩ := hv
  have C0 : xM p s m ([.ref (a 0), .int x1, .int x2] : List Value).toArray meth c cX2_at 3 RX2 (some .int) wsX2_at := ⟨B.exec, B.bytes, B.returns, atoms_spec (ws := wsX2_at) B.pre, findClass_of_methodNamed B.named, B.notSynchronized, hml⟩
  obtain ⟨hx, hb, hr, hts, hown, hlocks, hml⟩ := id C0
  have hD := xSelf hD0
  have hS : va_S (xIn (wT k a R P L N)) s.heap s.heap [] := va_S.rf
  generalize xIn (wT k a R P L N) = A at hD hS ⊢
  have hl := lv_entry ([.ref (a 0), .int x1, .int x2]) (n := 3) (Nat.le_of_ble_eq_true rfl)
  rw [lg_entry_eq]
  generalize (lg_sl ([.ref (a 0), .int x1, .int x2]) ++ List.replicate (3 - (lg_sl ([.ref (a 0), .int x1, .int x2])).length) Slot.unset).toArray = ls at hl ⊢
  have hl : lv_has ls 3 [(0, .ref (a 0)), (1, .int x1), (2, .int x2)] := hl
  unfold p_X2_at at hf
  refine lv_aload_n hx hb dX2_at_0 rfl (lv_at hl 0 rfl) ?_
  refine lv_iload_n hx hb dX2_at_1 rfl (lv_at hl 1 rfl) ?_
  refine lv_iload_n hx hb dX2_at_2 rfl (lv_at hl 2 rfl) ?_
  have hp : xPerm (wT k a R P L N) ((wT k a R P L N) ++ ([])) := xPermNil
  refine xCallI (w := wT k a R P L N) (r := []) (va_runV (As := [.int x1, .int x2]) (rest := []) ⟨hx, hb, hml, hown, hts⟩ (c_X2_has a R P L N x1 x2 hf) (cwV 2 hts gX2_at_X2_has rfl rfl rfl (by decide +kernel) ⟨Nat.le_of_ble_eq_true rfl, Nat.le_of_ble_eq_true rfl⟩) (xPreV hG hP hD hp (ci := 2) rfl (i := 0) rfl) rfl rfl hl.1 rfl (lv_room (Nat.le_of_ble_eq_true rfl)) dX2_at_3 ⟨Nat.zero_le _, Nat.zero_le _⟩) hP hD hS hp (fun _ => wT_adr) (fun r_1 _ H locs hf hP hD hS => ?_)
  have hP : va_P D vwCl (wT k a R P L N) H := xNilP hP
  have hD : va_D A (wT k a R P L N) := xNilD hD
  refine lv_if_eq (tgt := 20) hx hb dX2_at_6 (by decide) (fun c_2 => ?_) (fun c_2 => ?_)
  · have hf := hf.1 c_2
    refine lv_iconst (v := 0) hx hb dX2_at_20 (by decide) ?_
    exact W.iret (v := 0) hx hb hr (fun t ht hW => ⟨⟨(0 : Int32), (), rfl, hf, xHp ht hP⟩, hS.F ht⟩) hS.2.2 dX2_at_21 hlocks
  · have hf := hf.2 c_2
    refine lv_aload_n hx hb dX2_at_9 rfl (lv_at hl 0 rfl) ?_
    refine va_get (D := D) (ci := 2) (C := RX2) (T := TX2) (N := 4) hx hb hts in_X2_at_X2 hown hG.1 hP 0 rfl rfl 0 (by decide) (hts _ lk_X2_at_11) (fun _ h9 => h9) rfl dX2_at_10 ?_
    refine lv_iload_n hx hb dX2_at_13 rfl (lv_at hl 1 rfl) ?_
    obtain ⟨h_3, hf⟩ := hf
    refine xAald (f := fun i => a (i + 3)) hx hb hG.1 hP 1 3 rfl rfl h_3 dX2_at_14 ?_
    refine lv_iload_n hx hb dX2_at_15 rfl (lv_at hl 2 rfl) ?_
    obtain ⟨h_4, hf⟩ := hf
    refine va_iald hx hb hG.1 hP (x1.toNatClampNeg + 3) 0 (wT_row (vp_lt h_3)) rfl h_4 dX2_at_16 ?_
    refine lv_goto (tgt := 21) hx hb dX2_at_17 (by decide) ?_
    exact W.iret (v := (N (x1.toNatClampNeg) x2.toNatClampNeg)) hx hb hr (fun t ht hW => ⟨⟨(N (x1.toNatClampNeg) x2.toNatClampNeg), (), rfl, hf, xHp ht hP⟩, hS.F ht⟩) hS.2.2 dX2_at_21 hlocks

def p_X2_empty (R : Int32) (P : Int32) (L : Nat → Int32) (post : Int32 → Int32 → (Nat → Int32) → Prop) : Prop := p_J7_fill_53178 9 L 0 (fun f_1 => post 0 0 f_1)
theorem in_X2_empty_X2 : ∀ w ∈ u_ws RX2 TX2 4, w ∈ wsX2_empty := by decide +kernel
theorem lk_X2_empty_16 : Cond.fieldLink RX2 16 "GrowingCorners$Tableau" "lengths" "[I" ∈ wsX2_empty := by decide +kernel
theorem lk_X2_empty_20 : Cond.fieldLink RX2 20 "GrowingCorners$Tableau" "rows" "I" ∈ wsX2_empty := by decide +kernel
theorem lk_X2_empty_24 : Cond.fieldLink RX2 24 "GrowingCorners$Tableau" "places" "I" ∈ wsX2_empty := by decide +kernel
set_option maxHeartbeats 4000000 in
set_option maxRecDepth 100000 in
theorem c_X2_empty {l : Launch} {D : va_G} {k : Nat → ClassId} (a : Nat → Nat) (R : Int32) (P : Int32) (L : Nat → Int32) (N : Nat → Nat → Int32) {post : Int32 → Int32 → (Nat → Int32) → Prop} (hf : p_X2_empty R P L post) : ctV l yX2_empty wsX2_empty ({ frames := 1, cells := 0, slots := 0, locals := 23 }) D k [.ref (a 0)] (wT k a R P L N) (fun u : Int32 × Int32 × (Nat → Int32) => wT k a (u.1) (u.2.1) (u.2.2) N) (fun (u : Int32 × Int32 × (Nat → Int32)) => post u.1 u.2.1 u.2.2) := by
  refine Met.ofW (cc := cX2_empty) (maxL := 1) (ret := none) (by decide) rfl ?_
  intro p e s m args below meth c s₁ B hml hv
  obtain ⟨rfl, hP, hG, hD0⟩ := hv
  have C0 : xM p s m ([.ref (a 0)] : List Value).toArray meth c cX2_empty 1 RX2 none wsX2_empty := ⟨B.exec, B.bytes, B.returns, atoms_spec (ws := wsX2_empty) B.pre, findClass_of_methodNamed B.named, B.notSynchronized, hml⟩
  obtain ⟨hx, hb, hr, hts, hown, hlocks, hml⟩ := id C0
  have hD := xSelf hD0
  have hS : va_S (xIn (wT k a R P L N)) s.heap s.heap [] := va_S.rf
  generalize xIn (wT k a R P L N) = A at hD hS ⊢
  have hl := lv_entry ([.ref (a 0)]) (n := 1) (Nat.le_of_ble_eq_true rfl)
  rw [lg_entry_eq]
  generalize (lg_sl ([.ref (a 0)]) ++ List.replicate (1 - (lg_sl ([.ref (a 0)])).length) Slot.unset).toArray = ls at hl ⊢
  have hl : lv_has ls 1 [(0, .ref (a 0))] := hl
  unfold p_X2_empty at hf
  refine lv_aload_n hx hb dX2_empty_0 rfl (lv_at hl 0 rfl) ?_
  refine va_get (D := D) (ci := 2) (C := RX2) (T := TX2) (N := 4) hx hb hts in_X2_empty_X2 hown hG.1 hP 0 rfl rfl 1 (by decide) (hts _ lk_X2_empty_16) (fun _ h9 => h9) rfl dX2_empty_1 ?_
  refine lv_iconst (v := 0) hx hb dX2_empty_4 (by decide) ?_
  have hp : xPerm (wT k a R P L N) (([((a 2, .inl (k 0, 9, .inl L)) : Nat × va_E)]) ++ ((wT k a R P L N).eraseIdx 2)) := (xCut1 (i := 2) (rfl : (wT k a R P L N)[2]? = some ((a 2, .inl (k 0, 9, .inl L)) : Nat × va_E)))
  refine xCallV (w := [((a 2, .inl (k 0, 9, .inl L)) : Nat × va_E)]) (r := (wT k a R P L N).eraseIdx 2) (va_runS (As := [.ref (a 2), .int 0]) (rest := []) ⟨hx, hb, hml, hown, hts⟩ (c_J7_fill_53178 (a 2) 9 L 0 hf) (va_cwS 2 hts gX2_empty_J7_fill_53178 rfl rfl rfl (by decide +kernel) ⟨Nat.le_of_ble_eq_true rfl, Nat.le_of_ble_eq_true rfl⟩) (xPreS hG hP hD hp) rfl rfl hl.1 rfl (lv_room (Nat.le_of_ble_eq_true rfl)) dX2_empty_5 ⟨Nat.zero_le _, Nat.zero_le _⟩) hP hD hS hp (fun _ => rfl) (fun f_1 H locs hf hP hD hS => ?_)
  have hP : va_P D vwCl (wT k a R P f_1 N) H := xP_perm (xJoin1 (i := 2) (rfl : (wT k a R P L N)[2]? = some ((a 2, .inl (k 0, 9, .inl L)) : Nat × va_E))) hP
  have hD : va_D A (wT k a R P f_1 N) := xD_perm (xJoin1 (i := 2) (rfl : (wT k a R P L N)[2]? = some ((a 2, .inl (k 0, 9, .inl L)) : Nat × va_E))) hD
  refine lv_aload_n hx hb dX2_empty_8 rfl (lv_at hl 0 rfl) ?_
  refine lv_iconst (v := 0) hx hb dX2_empty_9 (by decide) ?_
  refine va_put (D := D) (ci := 2) (v := .int 0) (ty := .int) (C := RX2) (T := TX2) (N := 4) hx hb hts in_X2_empty_X2 tyX2 tyX2_ok nmX2 hown hG.1 hP hD hS 0 rfl rfl 2 (by decide) (hts _ lk_X2_empty_20) (fun _ h9 => h9) rfl (by decide +kernel) rfl rfl (Nat.le_of_ble_eq_true rfl) dX2_empty_10 (fun H locs hP hD hS => ?_)
  have hP : va_P D vwCl (wT k a 0 P f_1 N) H := hP
  have hD : va_D A (wT k a 0 P f_1 N) := hD
  refine lv_aload_n hx hb dX2_empty_13 rfl (lv_at hl 0 rfl) ?_
  refine lv_iconst (v := 0) hx hb dX2_empty_14 (by decide) ?_
  refine va_put (D := D) (ci := 2) (v := .int 0) (ty := .int) (C := RX2) (T := TX2) (N := 4) hx hb hts in_X2_empty_X2 tyX2 tyX2_ok nmX2 hown hG.1 hP hD hS 0 rfl rfl 3 (by decide) (hts _ lk_X2_empty_24) (fun _ h9 => h9) rfl (by decide +kernel) rfl rfl (Nat.le_of_ble_eq_true rfl) dX2_empty_15 (fun H locs hP hD hS => ?_)
  have hP : va_P D vwCl (wT k a 0 0 f_1 N) H := hP
  have hD : va_D A (wT k a 0 0 f_1 N) := hD
  exact W.vret hx hb hr (fun t ht hW => ⟨⟨(0, 0, f_1), rfl, hf, xHp ht hP⟩, hS.F ht⟩) hS.2.2 dX2_empty_18 hlocks

def p_X2_append (R : Int32) (P : Int32) (L : Nat → Int32) (N : Nat → Nat → Int32) (x1 : Int32) (x2 : Int32) (post : Int32 → Int32 → (Nat → Int32) → (Nat → Nat → Int32) → Prop) : Prop := p_X4_isWithin x1 0 8 (fun r_1 => ((r_1 = 0 → post R P L N) ∧ (¬ r_1 = 0 → ((P < 40 → (vp_in x1 9 ∧ (vp_in x1 9 ∧ (vp_in (L x1.toNatClampNeg) 40 ∧ (vp_in x1 9 ∧ (vp_in x1 9 ∧ post (if R < (x1 + 1) then (x1 + 1) else R) (P + 1) (upd L (x1.toNatClampNeg) ((L x1.toNatClampNeg) + 1)) (up2 N (x1.toNatClampNeg) (upd (N (x1.toNatClampNeg)) ((L x1.toNatClampNeg).toNatClampNeg) x2)))))))) ∧ (¬ P < 40 → post R P L N)))))
theorem in_X2_append_X2 : ∀ w ∈ u_ws RX2 TX2 4, w ∈ wsX2_append := by decide +kernel
theorem lk_X2_append_11 : Cond.fieldLink RX2 11 "GrowingCorners$Tableau" "numbers" "[[I" ∈ wsX2_append := by decide +kernel
theorem lk_X2_append_16 : Cond.fieldLink RX2 16 "GrowingCorners$Tableau" "lengths" "[I" ∈ wsX2_append := by decide +kernel
theorem lk_X2_append_20 : Cond.fieldLink RX2 20 "GrowingCorners$Tableau" "rows" "I" ∈ wsX2_append := by decide +kernel
theorem lk_X2_append_24 : Cond.fieldLink RX2 24 "GrowingCorners$Tableau" "places" "I" ∈ wsX2_append := by decide +kernel
theorem mb_X2_append_mc_max : Cond.code Lib.Math.max.name Lib.Math.max.code 2 (some .int) ∈ wsX2_append := by decide +kernel
theorem mb_X2_append_mi : Cond.initialized "java/lang/Math" ∈ wsX2_append := by decide +kernel
theorem mb_X2_append_ml45 : Cond.methodLink RX2 45 Lib.Math.max.name ∈ wsX2_append := by decide +kernel
theorem mb_X2_append_ms_max : Cond.static Lib.Math.max.name ∈ wsX2_append := by decide +kernel
theorem mb_X2_append_ni : Cond.initialized RX4 ∈ wsX2_append := by decide +kernel
theorem mb_X2_append_ns_X4_isWithin : Cond.static yX4_isWithin ∈ wsX2_append := by decide +kernel
set_option maxHeartbeats 4000000 in
set_option maxRecDepth 100000 in
theorem c_X2_append {l : Launch} {D : va_G} {k : Nat → ClassId} (a : Nat → Nat) (R : Int32) (P : Int32) (L : Nat → Int32) (N : Nat → Nat → Int32) (x1 : Int32) (x2 : Int32) {post : Int32 → Int32 → (Nat → Int32) → (Nat → Nat → Int32) → Prop} (hf : p_X2_append R P L N x1 x2 post) : ctV l yX2_append wsX2_append ({ frames := 1, cells := 0, slots := 0, locals := 24 }) D k [.ref (a 0), .int x1, .int x2] (wT k a R P L N) (fun u : Int32 × Int32 × (Nat → Int32) × (Nat → Nat → Int32) => wT k a (u.1) (u.2.1) (u.2.2.1) (u.2.2.2)) (fun (u : Int32 × Int32 × (Nat → Int32) × (Nat → Nat → Int32)) => post u.1 u.2.1 u.2.2.1 u.2.2.2) := by
  refine Met.ofW (cc := cX2_append) (maxL := 3) (ret := none) (by decide) rfl ?_
  intro p e s m args below meth c s₁ B hml hv
  obtain ⟨rfl, hP, hG, hD0⟩ := hv
  have C0 : xM p s m ([.ref (a 0), .int x1, .int x2] : List Value).toArray meth c cX2_append 3 RX2 none wsX2_append := ⟨B.exec, B.bytes, B.returns, atoms_spec (ws := wsX2_append) B.pre, findClass_of_methodNamed B.named, B.notSynchronized, hml⟩
  obtain ⟨hx, hb, hr, hts, hown, hlocks, hml⟩ := id C0
  have hD := xSelf hD0
  have hS : va_S (xIn (wT k a R P L N)) s.heap s.heap [] := va_S.rf
  generalize xIn (wT k a R P L N) = A at hD hS ⊢
  have hl := lv_entry ([.ref (a 0), .int x1, .int x2]) (n := 3) (Nat.le_of_ble_eq_true rfl)
  rw [lg_entry_eq]
  generalize (lg_sl ([.ref (a 0), .int x1, .int x2]) ++ List.replicate (3 - (lg_sl ([.ref (a 0), .int x1, .int x2])).length) Slot.unset).toArray = ls at hl ⊢
  have hl : lv_has ls 3 [(0, .ref (a 0)), (1, .int x1), (2, .int x2)] := hl
  unfold p_X2_append at hf
  refine lv_iload_n hx hb dX2_append_0 rfl (lv_at hl 1 rfl) ?_
  refine lv_iconst (v := 0) hx hb dX2_append_1 (by decide) ?_
  refine lv_bipush (v := 8) hx hb dX2_append_2 (by decide) ?_
  have hp : xPerm (wT k a R P L N) (([]) ++ (wT k a R P L N)) := (List.Perm.refl _)
  refine xCallI (w := []) (r := wT k a R P L N) (va_runSN (As := [.int x1, .int 0, .int 8]) (rest := []) ⟨hx, hb, hml, hown, hts⟩ (c_X4_isWithin x1 0 8 hf) ⟨va_cnB 3 hts gX2_append_X4_isWithin_n41 rfl rfl rfl hG.2.2.2 (hts _ mb_X2_append_ni) (by decide +kernel) ⟨Nat.le_of_ble_eq_true rfl, Nat.le_of_ble_eq_true rfl⟩, hts _ mb_X2_append_ns_X4_isWithin, trivial⟩ (xPreS hG hP hD hp) rfl rfl hl.1 rfl (lv_room (Nat.le_of_ble_eq_true rfl)) dX2_append_4 ⟨Nat.zero_le _, Nat.zero_le _⟩) hP hD hS hp (fun _ => rfl) (fun r_1 _ H locs hf hP hD hS => ?_)
  have hP : va_P D vwCl (wT k a R P L N) H := hP
  have hD : va_D A (wT k a R P L N) := hD
  refine lv_if_eq (tgt := 19) hx hb dX2_append_7 (by decide) (fun c_2 => ?_) (fun c_2 => ?_)
  · have hf := hf.1 c_2
    exact W.vret hx hb hr (fun t ht hW => ⟨⟨(R, P, L, N), rfl, hf, xHp ht hP⟩, hS.F ht⟩) hS.2.2 dX2_append_19 hlocks
  · have hf := hf.2 c_2
    refine lv_aload_n hx hb dX2_append_10 rfl (lv_at hl 0 rfl) ?_
    refine va_get (D := D) (ci := 2) (C := RX2) (T := TX2) (N := 4) hx hb hts in_X2_append_X2 hown hG.1 hP 0 rfl rfl 3 (by decide) (hts _ lk_X2_append_24) (fun _ h9 => h9) rfl dX2_append_11 ?_
    refine lv_bipush (v := 40) hx hb dX2_append_14 (by decide) ?_
    refine lv_icmp_lt (tgt := 20) hx hb dX2_append_16 (by decide) (fun c_3 => ?_) (fun c_3 => ?_)
    · have hf := hf.1 c_3
      refine lv_aload_n hx hb dX2_append_20 rfl (lv_at hl 0 rfl) ?_
      refine va_get (D := D) (ci := 2) (C := RX2) (T := TX2) (N := 4) hx hb hts in_X2_append_X2 hown hG.1 hP 0 rfl rfl 0 (by decide) (hts _ lk_X2_append_11) (fun _ h9 => h9) rfl dX2_append_21 ?_
      refine lv_iload_n hx hb dX2_append_24 rfl (lv_at hl 1 rfl) ?_
      obtain ⟨h_4, hf⟩ := hf
      refine xAald (f := fun i => a (i + 3)) hx hb hG.1 hP 1 3 rfl rfl h_4 dX2_append_25 ?_
      refine lv_aload_n hx hb dX2_append_26 rfl (lv_at hl 0 rfl) ?_
      refine va_get (D := D) (ci := 2) (C := RX2) (T := TX2) (N := 4) hx hb hts in_X2_append_X2 hown hG.1 hP 0 rfl rfl 1 (by decide) (hts _ lk_X2_append_16) (fun _ h9 => h9) rfl dX2_append_27 ?_
      refine lv_iload_n hx hb dX2_append_30 rfl (lv_at hl 1 rfl) ?_
      obtain ⟨h_5, hf⟩ := hf
      refine va_iald hx hb hG.1 hP 2 0 rfl rfl h_5 dX2_append_31 ?_
      refine lv_iload_n hx hb dX2_append_32 rfl (lv_at hl 2 rfl) ?_
      obtain ⟨h_6, hf⟩ := hf
      refine va_iast hx hb hG.1 hP hD hS (x1.toNatClampNeg + 3) 0 (wT_row (vp_lt h_4)) rfl h_6 dX2_append_33 (fun H locs hP hD hS => ?_)
      have hP : va_P D vwCl (wT k a R P L (up2 N (x1.toNatClampNeg) (upd (N (x1.toNatClampNeg)) ((L x1.toNatClampNeg).toNatClampNeg) x2))) H := by rw [← wT_put (vp_lt h_4)]; exact hP
      have hD : va_D A (wT k a R P L (up2 N (x1.toNatClampNeg) (upd (N (x1.toNatClampNeg)) ((L x1.toNatClampNeg).toNatClampNeg) x2))) := by rw [← wT_put (vp_lt h_4)]; exact hD
      refine lv_aload_n hx hb dX2_append_34 rfl (lv_at hl 0 rfl) ?_
      refine va_get (D := D) (ci := 2) (C := RX2) (T := TX2) (N := 4) hx hb hts in_X2_append_X2 hown hG.1 hP 0 rfl rfl 1 (by decide) (hts _ lk_X2_append_16) (fun _ h9 => h9) rfl dX2_append_35 ?_
      refine lv_iload_n hx hb dX2_append_38 rfl (lv_at hl 1 rfl) ?_
      refine lv_dup2_11 hx hb dX2_append_39 rfl rfl ?_
      obtain ⟨h_7, hf⟩ := hf
      refine va_iald hx hb hG.1 hP 2 0 rfl rfl h_7 dX2_append_40 ?_
      refine lv_iconst (v := 1) hx hb dX2_append_41 (by decide) ?_
      refine lv_iadd hx hb dX2_append_42 ?_
      obtain ⟨h_8, hf⟩ := hf
      refine va_iast hx hb hG.1 hP hD hS 2 0 rfl rfl h_8 dX2_append_43 (fun H locs hP hD hS => ?_)
      have hP : va_P D vwCl (wT k a R P (upd L (x1.toNatClampNeg) ((L x1.toNatClampNeg) + 1)) (up2 N (x1.toNatClampNeg) (upd (N (x1.toNatClampNeg)) ((L x1.toNatClampNeg).toNatClampNeg) x2))) H := hP
      have hD : va_D A (wT k a R P (upd L (x1.toNatClampNeg) ((L x1.toNatClampNeg) + 1)) (up2 N (x1.toNatClampNeg) (upd (N (x1.toNatClampNeg)) ((L x1.toNatClampNeg).toNatClampNeg) x2))) := hD
      refine lv_aload_n hx hb dX2_append_44 rfl (lv_at hl 0 rfl) ?_
      refine lv_dup hx hb dX2_append_45 rfl ?_
      refine va_get (D := D) (ci := 2) (C := RX2) (T := TX2) (N := 4) hx hb hts in_X2_append_X2 hown hG.1 hP 0 rfl rfl 3 (by decide) (hts _ lk_X2_append_24) (fun _ h9 => h9) rfl dX2_append_46 ?_
      refine lv_iconst (v := 1) hx hb dX2_append_49 (by decide) ?_
      refine lv_iadd hx hb dX2_append_50 ?_
      refine va_put (D := D) (ci := 2) (v := .int (P + 1)) (ty := .int) (C := RX2) (T := TX2) (N := 4) hx hb hts in_X2_append_X2 tyX2 tyX2_ok nmX2 hown hG.1 hP hD hS 0 rfl rfl 3 (by decide) (hts _ lk_X2_append_24) (fun _ h9 => h9) rfl (by decide +kernel) rfl rfl (Nat.le_of_ble_eq_true rfl) dX2_append_51 (fun H locs hP hD hS => ?_)
      have hP : va_P D vwCl (wT k a R (P + 1) (upd L (x1.toNatClampNeg) ((L x1.toNatClampNeg) + 1)) (up2 N (x1.toNatClampNeg) (upd (N (x1.toNatClampNeg)) ((L x1.toNatClampNeg).toNatClampNeg) x2))) H := hP
      have hD : va_D A (wT k a R (P + 1) (upd L (x1.toNatClampNeg) ((L x1.toNatClampNeg) + 1)) (up2 N (x1.toNatClampNeg) (upd (N (x1.toNatClampNeg)) ((L x1.toNatClampNeg).toNatClampNeg) x2))) := hD
      refine lv_aload_n hx hb dX2_append_54 rfl (lv_at hl 0 rfl) ?_
      refine lv_aload_n hx hb dX2_append_55 rfl (lv_at hl 0 rfl) ?_
      refine va_get (D := D) (ci := 2) (C := RX2) (T := TX2) (N := 4) hx hb hts in_X2_append_X2 hown hG.1 hP 0 rfl rfl 2 (by decide) (hts _ lk_X2_append_20) (fun _ h9 => h9) rfl dX2_append_56 ?_
      refine lv_iload_n hx hb dX2_append_59 rfl (lv_at hl 1 rfl) ?_
      refine lv_iconst (v := 1) hx hb dX2_append_60 (by decide) ?_
      refine lv_iadd hx hb dX2_append_61 ?_
      refine va_mmax hx hb (hml.trans hl.1.symm) hown (hts _ mb_X2_append_ml45) (hts _ mb_X2_append_ms_max) (hts _ mb_X2_append_mi) (hts _ mb_X2_append_mc_max) (Nat.le_of_ble_eq_true rfl) (Nat.le_of_ble_eq_true rfl) (Nat.zero_le _) (Nat.zero_le _) dX2_append_62 ?_
      refine va_put (D := D) (ci := 2) (v := .int (if R < (x1 + 1) then (x1 + 1) else R)) (ty := .int) (C := RX2) (T := TX2) (N := 4) hx hb hts in_X2_append_X2 tyX2 tyX2_ok nmX2 hown hG.1 hP hD hS 0 rfl rfl 2 (by decide) (hts _ lk_X2_append_20) (fun _ h9 => h9) rfl (by decide +kernel) rfl rfl (Nat.le_of_ble_eq_true rfl) dX2_append_65 (fun H locs hP hD hS => ?_)
      have hP : va_P D vwCl (wT k a (if R < (x1 + 1) then (x1 + 1) else R) (P + 1) (upd L (x1.toNatClampNeg) ((L x1.toNatClampNeg) + 1)) (up2 N (x1.toNatClampNeg) (upd (N (x1.toNatClampNeg)) ((L x1.toNatClampNeg).toNatClampNeg) x2))) H := hP
      have hD : va_D A (wT k a (if R < (x1 + 1) then (x1 + 1) else R) (P + 1) (upd L (x1.toNatClampNeg) ((L x1.toNatClampNeg) + 1)) (up2 N (x1.toNatClampNeg) (upd (N (x1.toNatClampNeg)) ((L x1.toNatClampNeg).toNatClampNeg) x2))) := hD
      exact W.vret hx hb hr (fun t ht hW => ⟨⟨((if R < (x1 + 1) then (x1 + 1) else R), (P + 1), (upd L (x1.toNatClampNeg) ((L x1.toNatClampNeg) + 1)), (up2 N (x1.toNatClampNeg) (upd (N (x1.toNatClampNeg)) ((L x1.toNatClampNeg).toNatClampNeg) x2))), rfl, hf, xHp ht hP⟩, hS.F ht⟩) hS.2.2 dX2_append_68 hlocks
    · have hf := hf.2 c_3
      exact W.vret hx hb hr (fun t ht hW => ⟨⟨(R, P, L, N), rfl, hf, xHp ht hP⟩, hS.F ht⟩) hS.2.2 dX2_append_19 hlocks

def p_X2_takeLast_55 (N : Nat → Nat → Int32) (x1 : Int32) (post : Int32 → Int32 → Int32 → (Nat → Int32) → Prop) (R : Int32) (P : Int32) (L : Nat → Int32) (x2 : Int32) : Prop := (vp_in x1 9 ∧ (vp_in x2 40 ∧ post (N (x1.toNatClampNeg) x2.toNatClampNeg) R P L))
def p_X2_takeLast (R : Int32) (P : Int32) (L : Nat → Int32) (N : Nat → Nat → Int32) (x1 : Int32) (post : Int32 → Int32 → Int32 → (Nat → Int32) → Prop) : Prop := p_X2_lengthOf L x1 (fun r_1 => ((0 ≤ (r_1 - 1) → (vp_in x1 9 ∧ (((r_1 - 1) = 0 → ((x1 = (R - 1) → p_X2_takeLast_55 N x1 post (R - 1) (P - 1) (upd L (x1.toNatClampNeg) (r_1 - 1)) (r_1 - 1)) ∧ (¬ x1 = (R - 1) → p_X2_takeLast_55 N x1 post R (P - 1) (upd L (x1.toNatClampNeg) (r_1 - 1)) (r_1 - 1)))) ∧ (¬ (r_1 - 1) = 0 → p_X2_takeLast_55 N x1 post R (P - 1) (upd L (x1.toNatClampNeg) (r_1 - 1)) (r_1 - 1))))) ∧ (¬ 0 ≤ (r_1 - 1) → post 0 R P L)))
theorem in_X2_takeLast_X2 : ∀ w ∈ u_ws RX2 TX2 4, w ∈ wsX2_takeLast := by decide +kernel
theorem lk_X2_takeLast_11 : Cond.fieldLink RX2 11 "GrowingCorners$Tableau" "numbers" "[[I" ∈ wsX2_takeLast := by decide +kernel
theorem lk_X2_takeLast_16 : Cond.fieldLink RX2 16 "GrowingCorners$Tableau" "lengths" "[I" ∈ wsX2_takeLast := by decide +kernel
theorem lk_X2_takeLast_20 : Cond.fieldLink RX2 20 "GrowingCorners$Tableau" "rows" "I" ∈ wsX2_takeLast := by decide +kernel
theorem lk_X2_takeLast_24 : Cond.fieldLink RX2 24 "GrowingCorners$Tableau" "places" "I" ∈ wsX2_takeLast := by decide +kernel
set_option maxHeartbeats 4000000 in
set_option maxRecDepth 100000 in
theorem k_X2_takeLast_55 {p : Program} {l : Launch} {e : Env} {s : State} {m : MethodId} {args : Array Value} {below : List Frame} {meth : Method} {c : Code} {A : Nat → Prop} {D : va_G} {k : Nat → ClassId} {a : Nat → Nat} {N : Nat → Nat → Int32} {x1 : Int32} (C0 : xM p s m args meth c cX2_takeLast 3 RX2 (some .int) wsX2_takeLast) (hG : xG D k s) {post : Int32 → Int32 → Int32 → (Nat → Int32) → Prop} : ∀ (R : Int32) (P : Int32) (L : Nat → Int32) (x2 : Int32) (H : Heap) (locs : List Loc) (ls : Array Slot), p_X2_takeLast_55 N x1 post R P L x2 → va_P D vwCl (wT k a R P L N) H → va_D A (wT k a R P L N) → va_S A s.heap H locs → lv_has ls 3 [(0, .ref (a 0)), (1, .int x1), (2, .int x2)] → W p l e ({ frames := 1, cells := 0, slots := 0, locals := 21 }) s m args below meth c H locs 0 0 (MQ below (va_Qi (fun (r : Int32) (u : Int32 × Int32 × (Nat → Int32)) => post r u.1 u.2.1 u.2.2) (fun u t => va_P D vwCl (wT k a (u.1) (u.2.1) (u.2.2) N) t.heap) A) args s 0 0 A) (F0 m 55 ls []) := by
  obtain ⟨hx, hb, hr, hts, hown, hlocks, hml⟩ := id C0
  intro R P L x2 H locs ls hf hP hD hS hl
  unfold p_X2_takeLast_55 at hf
  refine lv_aload_n hx hb dX2_takeLast_55 rfl (lv_at hl 0 rfl) ?_
  refine va_get (D := D) (ci := 2) (C := RX2) (T := TX2) (N := 4) hx hb hts in_X2_takeLast_X2 hown hG.1 hP 0 rfl rfl 0 (by decide) (hts _ lk_X2_takeLast_11) (fun _ h9 => h9) rfl dX2_takeLast_56 ?_
  refine lv_iload_n hx hb dX2_takeLast_59 rfl (lv_at hl 1 rfl) ?_
  obtain ⟨h_5, hf⟩ := hf
  refine xAald (f := fun i => a (i + 3)) hx hb hG.1 hP 1 3 rfl rfl h_5 dX2_takeLast_60 ?_
  refine lv_iload_n hx hb dX2_takeLast_61 rfl (lv_at hl 2 rfl) ?_
  obtain ⟨h_6, hf⟩ := hf
  refine va_iald hx hb hG.1 hP (x1.toNatClampNeg + 3) 0 (wT_row (vp_lt h_5)) rfl h_6 dX2_takeLast_62 ?_
  exact W.iret (v := (N (x1.toNatClampNeg) x2.toNatClampNeg)) hx hb hr (fun t ht hW => ⟨⟨(N (x1.toNatClampNeg) x2.toNatClampNeg), (R, P, L), rfl, hf, xHp ht hP⟩, hS.F ht⟩) hS.2.2 dX2_takeLast_63 hlocks
set_option maxHeartbeats 4000000 in
set_option maxRecDepth 100000 in
theorem c_X2_takeLast {l : Launch} {D : va_G} {k : Nat → ClassId} (a : Nat → Nat) (R : Int32) (P : Int32) (L : Nat → Int32) (N : Nat → Nat → Int32) (x1 : Int32) {post : Int32 → Int32 → Int32 → (Nat → Int32) → Prop} (hf : p_X2_takeLast R P L N x1 post) : ctI l yX2_takeLast wsX2_takeLast ({ frames := 1, cells := 0, slots := 0, locals := 21 }) D k [.ref (a 0), .int x1] (wT k a R P L N) (fun u : Int32 × Int32 × (Nat → Int32) => wT k a (u.1) (u.2.1) (u.2.2) N) (fun (r : Int32) (u : Int32 × Int32 × (Nat → Int32)) => post r u.1 u.2.1 u.2.2) := by
  refine Met.ofW (cc := cX2_takeLast) (maxL := 3) (ret := (some .int)) (by decide) rfl ?_
  intro p e s m args below meth c s₁ B hml hv
  obtain ⟨rfl, hP, hG, hD0⟩ := hv
  have C0 : xM p s m ([.ref (a 0), .int x1] : List Value).toArray meth c cX2_takeLast 3 RX2 (some .int) wsX2_takeLast := ⟨B.exec, B.bytes, B.returns, atoms_spec (ws := wsX2_takeLast) B.pre, findClass_of_methodNamed B.named, B.notSynchronized, hml⟩
  obtain ⟨hx, hb, hr, hts, hown, hlocks, hml⟩ := id C0
  have hD := xSelf hD0
  have hS : va_S (xIn (wT k a R P L N)) s.heap s.heap [] := va_S.rf
  generalize xIn (wT k a R P L N) = A at hD hS ⊢
  have hl := lv_entry ([.ref (a 0), .int x1]) (n := 3) (Nat.le_of_ble_eq_true rfl)
  rw [lg_entry_eq]
  generalize (lg_sl ([.ref (a 0), .int x1]) ++ List.replicate (3 - (lg_sl ([.ref (a 0), .int x1])).length) Slot.unset).toArray = ls at hl ⊢
  have hl : lv_has ls 3 [(0, .ref (a 0)), (1, .int x1)] := hl
  unfold p_X2_takeLast at hf
  refine lv_aload_n hx hb dX2_takeLast_0 rfl (lv_at hl 0 rfl) ?_
  refine lv_iload_n hx hb dX2_takeLast_1 rfl (lv_at hl 1 rfl) ?_
  have hp : xPerm (wT k a R P L N) ((wT k a R P L N) ++ ([])) := xPermNil
  refine xCallI (w := wT k a R P L N) (r := []) (va_runV (As := [.int x1]) (rest := []) ⟨hx, hb, hml, hown, hts⟩ (c_X2_lengthOf a R P L N x1 hf) (cwV 1 hts gX2_takeLast_X2_lengthOf rfl rfl rfl (by decide +kernel) ⟨Nat.le_of_ble_eq_true rfl, Nat.le_of_ble_eq_true rfl⟩) (xPreV hG hP hD hp (ci := 2) rfl (i := 0) rfl) rfl rfl hl.1 rfl (lv_room (Nat.le_of_ble_eq_true rfl)) dX2_takeLast_2 ⟨Nat.zero_le _, Nat.zero_le _⟩) hP hD hS hp (fun _ => wT_adr) (fun r_1 _ H locs hf hP hD hS => ?_)
  have hP : va_P D vwCl (wT k a R P L N) H := xNilP hP
  have hD : va_D A (wT k a R P L N) := xNilD hD
  refine lv_iconst (v := 1) hx hb dX2_takeLast_5 (by decide) ?_
  refine lv_isub hx hb dX2_takeLast_6 ?_
  refine lv_istore_n (lv' := [(2, .int (r_1 - 1)), (0, .ref (a 0)), (1, .int x1)]) hx hb dX2_takeLast_7 rfl hl (by decide) rfl (fun ls hl => ?_)
  refine lv_iload_n hx hb dX2_takeLast_8 rfl (lv_at hl 0 rfl) ?_
  refine lv_if_ge (tgt := 14) hx hb dX2_takeLast_9 (by decide) (fun c_2 => ?_) (fun c_2 => ?_)
  · have hf := hf.1 c_2
    refine lv_aload_n hx hb dX2_takeLast_14 rfl (lv_at hl 1 rfl) ?_
    refine va_get (D := D) (ci := 2) (C := RX2) (T := TX2) (N := 4) hx hb hts in_X2_takeLast_X2 hown hG.1 hP 0 rfl rfl 1 (by decide) (hts _ lk_X2_takeLast_16) (fun _ h9 => h9) rfl dX2_takeLast_15 ?_
    refine lv_iload_n hx hb dX2_takeLast_18 rfl (lv_at hl 2 rfl) ?_
    refine lv_iload_n hx hb dX2_takeLast_19 rfl (lv_at hl 0 rfl) ?_
    obtain ⟨h_3, hf⟩ := hf
    refine va_iast hx hb hG.1 hP hD hS 2 0 rfl rfl h_3 dX2_takeLast_20 (fun H locs hP hD hS => ?_)
    have hP : va_P D vwCl (wT k a R P (upd L (x1.toNatClampNeg) (r_1 - 1)) N) H := hP
    have hD : va_D A (wT k a R P (upd L (x1.toNatClampNeg) (r_1 - 1)) N) := hD
    refine lv_aload_n hx hb dX2_takeLast_21 rfl (lv_at hl 1 rfl) ?_
    refine lv_dup hx hb dX2_takeLast_22 rfl ?_
    refine va_get (D := D) (ci := 2) (C := RX2) (T := TX2) (N := 4) hx hb hts in_X2_takeLast_X2 hown hG.1 hP 0 rfl rfl 3 (by decide) (hts _ lk_X2_takeLast_24) (fun _ h9 => h9) rfl dX2_takeLast_23 ?_
    refine lv_iconst (v := 1) hx hb dX2_takeLast_26 (by decide) ?_
    refine lv_isub hx hb dX2_takeLast_27 ?_
    refine va_put (D := D) (ci := 2) (v := .int (P - 1)) (ty := .int) (C := RX2) (T := TX2) (N := 4) hx hb hts in_X2_takeLast_X2 tyX2 tyX2_ok nmX2 hown hG.1 hP hD hS 0 rfl rfl 3 (by decide) (hts _ lk_X2_takeLast_24) (fun _ h9 => h9) rfl (by decide +kernel) rfl rfl (Nat.le_of_ble_eq_true rfl) dX2_takeLast_28 (fun H locs hP hD hS => ?_)
    have hP : va_P D vwCl (wT k a R (P - 1) (upd L (x1.toNatClampNeg) (r_1 - 1)) N) H := hP
    have hD : va_D A (wT k a R (P - 1) (upd L (x1.toNatClampNeg) (r_1 - 1)) N) := hD
    refine lv_iload_n hx hb dX2_takeLast_31 rfl (lv_at hl 0 rfl) ?_
    refine lv_if_ne (tgt := 55) hx hb dX2_takeLast_32 (by decide) (fun c_4 => ?_) (fun c_4 => ?_)
    · have hf := hf.2 c_4
      exact k_X2_takeLast_55 C0 hG R (P - 1) (upd L (x1.toNatClampNeg) (r_1 - 1)) (r_1 - 1) _ _ _ hf hP hD hS (lv_sub hl [1, 2, 0] rfl)
    · have hf := hf.1 c_4
      refine lv_iload_n hx hb dX2_takeLast_35 rfl (lv_at hl 2 rfl) ?_
      refine lv_aload_n hx hb dX2_takeLast_36 rfl (lv_at hl 1 rfl) ?_
      refine va_get (D := D) (ci := 2) (C := RX2) (T := TX2) (N := 4) hx hb hts in_X2_takeLast_X2 hown hG.1 hP 0 rfl rfl 2 (by decide) (hts _ lk_X2_takeLast_20) (fun _ h9 => h9) rfl dX2_takeLast_37 ?_
      refine lv_iconst (v := 1) hx hb dX2_takeLast_40 (by decide) ?_
      refine lv_isub hx hb dX2_takeLast_41 ?_
      refine lv_icmp_ne (tgt := 55) hx hb dX2_takeLast_42 (by decide) (fun c_7 => ?_) (fun c_7 => ?_)
      · have hf := hf.2 c_7
        exact k_X2_takeLast_55 C0 hG R (P - 1) (upd L (x1.toNatClampNeg) (r_1 - 1)) (r_1 - 1) _ _ _ hf hP hD hS (lv_sub hl [1, 2, 0] rfl)
      · have hf := hf.1 c_7
        refine lv_aload_n hx hb dX2_takeLast_45 rfl (lv_at hl 1 rfl) ?_
        refine lv_dup hx hb dX2_takeLast_46 rfl ?_
        refine va_get (D := D) (ci := 2) (C := RX2) (T := TX2) (N := 4) hx hb hts in_X2_takeLast_X2 hown hG.1 hP 0 rfl rfl 2 (by decide) (hts _ lk_X2_takeLast_20) (fun _ h9 => h9) rfl dX2_takeLast_47 ?_
        refine lv_iconst (v := 1) hx hb dX2_takeLast_50 (by decide) ?_
        refine lv_isub hx hb dX2_takeLast_51 ?_
        refine va_put (D := D) (ci := 2) (v := .int (R - 1)) (ty := .int) (C := RX2) (T := TX2) (N := 4) hx hb hts in_X2_takeLast_X2 tyX2 tyX2_ok nmX2 hown hG.1 hP hD hS 0 rfl rfl 2 (by decide) (hts _ lk_X2_takeLast_20) (fun _ h9 => h9) rfl (by decide +kernel) rfl rfl (Nat.le_of_ble_eq_true rfl) dX2_takeLast_52 (fun H locs hP hD hS => ?_)
        have hP : va_P D vwCl (wT k a (R - 1) (P - 1) (upd L (x1.toNatClampNeg) (r_1 - 1)) N) H := hP
        have hD : va_D A (wT k a (R - 1) (P - 1) (upd L (x1.toNatClampNeg) (r_1 - 1)) N) := hD
        exact k_X2_takeLast_55 C0 hG (R - 1) (P - 1) (upd L (x1.toNatClampNeg) (r_1 - 1)) (r_1 - 1) _ _ _ hf hP hD hS (lv_sub hl [1, 2, 0] rfl)
  · have hf := hf.2 c_2
    refine lv_iconst (v := 0) hx hb dX2_takeLast_12 (by decide) ?_
    exact W.iret (v := 0) hx hb hr (fun t ht hW => ⟨⟨(0 : Int32), (R, P, L), rfl, hf, xHp ht hP⟩, hS.F ht⟩) hS.2.2 dX2_takeLast_13 hlocks

def p_X2_exchange (L : Nat → Int32) (N : Nat → Nat → Int32) (x1 : Int32) (x2 : Int32) (x3 : Int32) (post : Int32 → (Nat → Nat → Int32) → Prop) : Prop := p_X2_has L x1 x2 (fun r_1 => ((r_1 = 0 → post x3 N) ∧ (¬ r_1 = 0 → (vp_in x1 9 ∧ (vp_in x2 40 ∧ (vp_in x1 9 ∧ (vp_in x2 40 ∧ post (N (x1.toNatClampNeg) x2.toNatClampNeg) (up2 N (x1.toNatClampNeg) (upd (N (x1.toNatClampNeg)) (x2.toNatClampNeg) x3)))))))))
theorem in_X2_exchange_X2 : ∀ w ∈ u_ws RX2 TX2 4, w ∈ wsX2_exchange := by decide +kernel
theorem lk_X2_exchange_11 : Cond.fieldLink RX2 11 "GrowingCorners$Tableau" "numbers" "[[I" ∈ wsX2_exchange := by decide +kernel
set_option maxHeartbeats 4000000 in
set_option maxRecDepth 100000 in
theorem c_X2_exchange {l : Launch} {D : va_G} {k : Nat → ClassId} (a : Nat → Nat) (R : Int32) (P : Int32) (L : Nat → Int32) (N : Nat → Nat → Int32) (x1 : Int32) (x2 : Int32) (x3 : Int32) {post : Int32 → (Nat → Nat → Int32) → Prop} (hf : p_X2_exchange L N x1 x2 x3 post) : ctI l yX2_exchange wsX2_exchange ({ frames := 2, cells := 0, slots := 0, locals := 43 }) D k [.ref (a 0), .int x1, .int x2, .int x3] (wT k a R P L N) (fun u : (Nat → Nat → Int32) => wT k a R P L u) (fun (r : Int32) (u : (Nat → Nat → Int32)) => post r u) := by
  refine Met.ofW (cc := cX2_exchange) (maxL := 5) (ret := (some .int)) (by decide) rfl ?_
  intro p e s m args below meth c s₁ B hml hv
  obtain ⟨rfl, hP, hG, hD0⟩ := hv
  have C0 : xM p s m ([.ref (a 0), .int x1, .int x2, .int x3] : List Value).toArray meth c cX2_exchange 5 RX2 (some .int) wsX2_exchange := ⟨B.exec, B.bytes, B.returns, atoms_spec (ws := wsX2_exchange) B.pre, findClass_of_methodNamed B.named, B.notSynchronized, hml⟩
  obtain ⟨hx, hb, hr, hts, hown, hlocks, hml⟩ := id C0
  have hD := xSelf hD0
  have hS : va_S (xIn (wT k a R P L N)) s.heap s.heap [] := va_S.rf
  generalize xIn (wT k a R P L N) = A at hD hS ⊢
  have hl := lv_entry ([.ref (a 0), .int x1, .int x2, .int x3]) (n := 5) (Nat.le_of_ble_eq_true rfl)
  rw [lg_entry_eq]
  generalize (lg_sl ([.ref (a 0), .int x1, .int x2, .int x3]) ++ List.replicate (5 - (lg_sl ([.ref (a 0), .int x1, .int x2, .int x3])).length) Slot.unset).toArray = ls at hl ⊢
  have hl : lv_has ls 5 [(0, .ref (a 0)), (1, .int x1), (2, .int x2), (3, .int x3)] := hl
  unfold p_X2_exchange at hf
  refine lv_aload_n hx hb dX2_exchange_0 rfl (lv_at hl 0 rfl) ?_
  refine lv_iload_n hx hb dX2_exchange_1 rfl (lv_at hl 1 rfl) ?_
  refine lv_iload_n hx hb dX2_exchange_2 rfl (lv_at hl 2 rfl) ?_
  have hp : xPerm (wT k a R P L N) ((wT k a R P L N) ++ ([])) := xPermNil
  refine xCallI (w := wT k a R P L N) (r := []) (va_runV (As := [.int x1, .int x2]) (rest := []) ⟨hx, hb, hml, hown, hts⟩ (c_X2_has a R P L N x1 x2 hf) (cwV 2 hts gX2_exchange_X2_has rfl rfl rfl (by decide +kernel) ⟨Nat.le_of_ble_eq_true rfl, Nat.le_of_ble_eq_true rfl⟩) (xPreV hG hP hD hp (ci := 2) rfl (i := 0) rfl) rfl rfl hl.1 rfl (lv_room (Nat.le_of_ble_eq_true rfl)) dX2_exchange_3 ⟨Nat.zero_le _, Nat.zero_le _⟩) hP hD hS hp (fun _ => wT_adr) (fun r_1 _ H locs hf hP hD hS => ?_)
  have hP : va_P D vwCl (wT k a R P L N) H := xNilP hP
  have hD : va_D A (wT k a R P L N) := xNilD hD
  refine lv_if_ne (tgt := 11) hx hb dX2_exchange_6 (by decide) (fun c_2 => ?_) (fun c_2 => ?_)
  · have hf := hf.2 c_2
    refine lv_aload_n hx hb dX2_exchange_11 rfl (lv_at hl 0 rfl) ?_
    refine va_get (D := D) (ci := 2) (C := RX2) (T := TX2) (N := 4) hx hb hts in_X2_exchange_X2 hown hG.1 hP 0 rfl rfl 0 (by decide) (hts _ lk_X2_exchange_11) (fun _ h9 => h9) rfl dX2_exchange_12 ?_
    refine lv_iload_n hx hb dX2_exchange_15 rfl (lv_at hl 1 rfl) ?_
    obtain ⟨h_3, hf⟩ := hf
    refine xAald (f := fun i => a (i + 3)) hx hb hG.1 hP 1 3 rfl rfl h_3 dX2_exchange_16 ?_
    refine lv_iload_n hx hb dX2_exchange_17 rfl (lv_at hl 2 rfl) ?_
    obtain ⟨h_4, hf⟩ := hf
    refine va_iald hx hb hG.1 hP (x1.toNatClampNeg + 3) 0 (wT_row (vp_lt h_3)) rfl h_4 dX2_exchange_18 ?_
    refine lv_istore (lv' := [(4, .int (N (x1.toNatClampNeg) x2.toNatClampNeg)), (0, .ref (a 0)), (1, .int x1), (2, .int x2), (3, .int x3)]) hx hb dX2_exchange_19 hl (by decide) rfl (fun ls hl => ?_)
    refine lv_aload_n hx hb dX2_exchange_21 rfl (lv_at hl 1 rfl) ?_
    refine va_get (D := D) (ci := 2) (C := RX2) (T := TX2) (N := 4) hx hb hts in_X2_exchange_X2 hown hG.1 hP 0 rfl rfl 0 (by decide) (hts _ lk_X2_exchange_11) (fun _ h9 => h9) rfl dX2_exchange_22 ?_
    refine lv_iload_n hx hb dX2_exchange_25 rfl (lv_at hl 2 rfl) ?_
    obtain ⟨h_5, hf⟩ := hf
    refine xAald (f := fun i => a (i + 3)) hx hb hG.1 hP 1 3 rfl rfl h_5 dX2_exchange_26 ?_
    refine lv_iload_n hx hb dX2_exchange_27 rfl (lv_at hl 3 rfl) ?_
    refine lv_iload_n hx hb dX2_exchange_28 rfl (lv_at hl 4 rfl) ?_
    obtain ⟨h_6, hf⟩ := hf
    refine va_iast hx hb hG.1 hP hD hS (x1.toNatClampNeg + 3) 0 (wT_row (vp_lt h_5)) rfl h_6 dX2_exchange_29 (fun H locs hP hD hS => ?_)
    have hP : va_P D vwCl (wT k a R P L (up2 N (x1.toNatClampNeg) (upd (N (x1.toNatClampNeg)) (x2.toNatClampNeg) x3))) H := by rw [← wT_put (vp_lt h_5)]; exact hP
    have hD : va_D A (wT k a R P L (up2 N (x1.toNatClampNeg) (upd (N (x1.toNatClampNeg)) (x2.toNatClampNeg) x3))) := by rw [← wT_put (vp_lt h_5)]; exact hD
    refine lv_iload hx hb dX2_exchange_30 (lv_at hl 0 rfl) ?_
    exact W.iret (v := (N (x1.toNatClampNeg) x2.toNatClampNeg)) hx hb hr (fun t ht hW => ⟨⟨(N (x1.toNatClampNeg) x2.toNatClampNeg), (up2 N (x1.toNatClampNeg) (upd (N (x1.toNatClampNeg)) (x2.toNatClampNeg) x3)), rfl, hf, xHp ht hP⟩, hS.F ht⟩) hS.2.2 dX2_exchange_32 hlocks
  · have hf := hf.1 c_2
    refine lv_iload_n hx hb dX2_exchange_9 rfl (lv_at hl 3 rfl) ?_
    exact W.iret (v := x3) hx hb hr (fun t ht hW => ⟨⟨x3, N, rfl, hf, xHp ht hP⟩, hS.F ht⟩) hS.2.2 dX2_exchange_10 hlocks

def p_X2_firstGreater_9 (L : Nat → Int32) (N : Nat → Nat → Int32) (x1 : Int32) (x2 : Int32) (post : Int32 → Prop) : Nat → Int32 → Int32 → Prop
  | 0, _, _ => False
  | n + 1, x3, x4 => ((x3 ≤ x4 → post x3) ∧ (¬ x3 ≤ x4 → (vp_in x1 9 ∧ (vp_in x4 40 ∧ (((N (x1.toNatClampNeg) x4.toNatClampNeg) ≤ x2 → p_X2_firstGreater_9 L N x1 x2 post n x3 (x4 + 1)) ∧ (¬ (N (x1.toNatClampNeg) x4.toNatClampNeg) ≤ x2 → post x4))))))
def p_X2_firstGreater (L : Nat → Int32) (N : Nat → Nat → Int32) (x1 : Int32) (x2 : Int32) (post : Int32 → Prop) : Prop := p_X2_lengthOf L x1 (fun r_1 => (∃ n_6, p_X2_firstGreater_9 L N x1 x2 post n_6 r_1 0))
theorem in_X2_firstGreater_X2 : ∀ w ∈ u_ws RX2 TX2 4, w ∈ wsX2_firstGreater := by decide +kernel
theorem lk_X2_firstGreater_11 : Cond.fieldLink RX2 11 "GrowingCorners$Tableau" "numbers" "[[I" ∈ wsX2_firstGreater := by decide +kernel
set_option maxHeartbeats 4000000 in
set_option maxRecDepth 100000 in
theorem k_X2_firstGreater_9 {p : Program} {l : Launch} {e : Env} {s : State} {m : MethodId} {args : Array Value} {below : List Frame} {meth : Method} {c : Code} {A : Nat → Prop} {D : va_G} {k : Nat → ClassId} {a : Nat → Nat} {R : Int32} {P : Int32} {L : Nat → Int32} {N : Nat → Nat → Int32} {x1 : Int32} {x2 : Int32} (C0 : xM p s m args meth c cX2_firstGreater 5 RX2 (some .int) wsX2_firstGreater) (hG : xG D k s) {post : Int32 → Prop} : ∀ (n : Nat) (x3 : Int32) (x4 : Int32) (H : Heap) (locs : List Loc) (ls : Array Slot), p_X2_firstGreater_9 L N x1 x2 post n x3 x4 → va_P D vwCl (wT k a R P L N) H → va_D A (wT k a R P L N) → va_S A s.heap H locs → lv_has ls 5 [(0, .ref (a 0)), (1, .int x1), (2, .int x2), (3, .int x3), (4, .int x4)] → W p l e ({ frames := 1, cells := 0, slots := 0, locals := 21 }) s m args below meth c H locs 0 0 (MQ below (va_Qi (fun (r : Int32) (u : Unit) => post r) (fun u t => va_P D vwCl (wT k a R P L N) t.heap) A) args s 0 0 A) (F0 m 9 ls []) := by
  obtain ⟨hx, hb, hr, hts, hown, hlocks, hml⟩ := id C0
  intro n
  induction n with
  | zero =>
    intro x3 x4 H locs ls hf
    exact False.elim hf
  | succ n ih =>
    intro x3 x4 H locs ls hf hP hD hS hl
    unfold p_X2_firstGreater_9 at hf
    refine lv_iload hx hb dX2_firstGreater_9 (lv_at hl 4 rfl) ?_
    refine lv_iload_n hx hb dX2_firstGreater_11 rfl (lv_at hl 3 rfl) ?_
    refine lv_icmp_ge (tgt := 37) hx hb dX2_firstGreater_12 (by decide) (fun c_2 => ?_) (fun c_2 => ?_)
    · have hf := hf.1 c_2
      refine lv_iload_n hx hb dX2_firstGreater_37 rfl (lv_at hl 3 rfl) ?_
      exact W.iret (v := x3) hx hb hr (fun t ht hW => ⟨⟨x3, (), rfl, hf, xHp ht hP⟩, hS.F ht⟩) hS.2.2 dX2_firstGreater_38 hlocks
    · have hf := hf.2 c_2
      refine lv_aload_n hx hb dX2_firstGreater_15 rfl (lv_at hl 0 rfl) ?_
      refine va_get (D := D) (ci := 2) (C := RX2) (T := TX2) (N := 4) hx hb hts in_X2_firstGreater_X2 hown hG.1 hP 0 rfl rfl 0 (by decide) (hts _ lk_X2_firstGreater_11) (fun _ h9 => h9) rfl dX2_firstGreater_16 ?_
      refine lv_iload_n hx hb dX2_firstGreater_19 rfl (lv_at hl 1 rfl) ?_
      obtain ⟨h_3, hf⟩ := hf
      refine xAald (f := fun i => a (i + 3)) hx hb hG.1 hP 1 3 rfl rfl h_3 dX2_firstGreater_20 ?_
      refine lv_iload hx hb dX2_firstGreater_21 (lv_at hl 4 rfl) ?_
      obtain ⟨h_4, hf⟩ := hf
      refine va_iald hx hb hG.1 hP (x1.toNatClampNeg + 3) 0 (wT_row (vp_lt h_3)) rfl h_4 dX2_firstGreater_23 ?_
      refine lv_iload_n hx hb dX2_firstGreater_24 rfl (lv_at hl 2 rfl) ?_
      refine lv_icmp_le (tgt := 31) hx hb dX2_firstGreater_25 (by decide) (fun c_5 => ?_) (fun c_5 => ?_)
      · have hf := hf.1 c_5
        refine lv_iinc (v := x4 + 1) (lv' := [(4, .int (x4 + 1)), (0, .ref (a 0)), (1, .int x1), (2, .int x2), (3, .int x3)]) hx hb dX2_firstGreater_31 hl (k := 4) rfl rfl (by decide) rfl (fun ls hl => ?_)
        refine lv_goto (tgt := 9) hx hb dX2_firstGreater_34 (by decide) ?_
        exact ih x3 (x4 + 1) _ _ _ hf hP hD hS (lv_sub hl [1, 2, 3, 4, 0] rfl)
      · have hf := hf.2 c_5
        refine lv_iload hx hb dX2_firstGreater_28 (lv_at hl 4 rfl) ?_
        exact W.iret (v := x4) hx hb hr (fun t ht hW => ⟨⟨x4, (), rfl, hf, xHp ht hP⟩, hS.F ht⟩) hS.2.2 dX2_firstGreater_30 hlocks
set_option maxHeartbeats 4000000 in
set_option maxRecDepth 100000 in
theorem c_X2_firstGreater {l : Launch} {D : va_G} {k : Nat → ClassId} (a : Nat → Nat) (R : Int32) (P : Int32) (L : Nat → Int32) (N : Nat → Nat → Int32) (x1 : Int32) (x2 : Int32) {post : Int32 → Prop} (hf : p_X2_firstGreater L N x1 x2 post) : ctI l yX2_firstGreater wsX2_firstGreater ({ frames := 1, cells := 0, slots := 0, locals := 21 }) D k [.ref (a 0), .int x1, .int x2] (wT k a R P L N) (fun u : Unit => wT k a R P L N) (fun (r : Int32) (u : Unit) => post r) := by
  refine Met.ofW (cc := cX2_firstGreater) (maxL := 5) (ret := (some .int)) (by decide) rfl ?_
  intro p e s m args below meth c s₁ B hml hv
  obtain ⟨rfl, hP, hG, hD0⟩ := hv
  have C0 : xM p s m ([.ref (a 0), .int x1, .int x2] : List Value).toArray meth c cX2_firstGreater 5 RX2 (some .int) wsX2_firstGreater := ⟨B.exec, B.bytes, B.returns, atoms_spec (ws := wsX2_firstGreater) B.pre, findClass_of_methodNamed B.named, B.notSynchronized, hml⟩
  obtain ⟨hx, hb, hr, hts, hown, hlocks, hml⟩ := id C0
  have hD := xSelf hD0
  have hS : va_S (xIn (wT k a R P L N)) s.heap s.heap [] := va_S.rf
  generalize xIn (wT k a R P L N) = A at hD hS ⊢
  have hl := lv_entry ([.ref (a 0), .int x1, .int x2]) (n := 5) (Nat.le_of_ble_eq_true rfl)
  rw [lg_entry_eq]
  generalize (lg_sl ([.ref (a 0), .int x1, .int x2]) ++ List.replicate (5 - (lg_sl ([.ref (a 0), .int x1, .int x2])).length) Slot.unset).toArray = ls at hl ⊢
  have hl : lv_has ls 5 [(0, .ref (a 0)), (1, .int x1), (2, .int x2)] := hl
  unfold p_X2_firstGreater at hf
  refine lv_aload_n hx hb dX2_firstGreater_0 rfl (lv_at hl 0 rfl) ?_
  refine lv_iload_n hx hb dX2_firstGreater_1 rfl (lv_at hl 1 rfl) ?_
  have hp : xPerm (wT k a R P L N) ((wT k a R P L N) ++ ([])) := xPermNil
  refine xCallI (w := wT k a R P L N) (r := []) (va_runV (As := [.int x1]) (rest := []) ⟨hx, hb, hml, hown, hts⟩ (c_X2_lengthOf a R P L N x1 hf) (cwV 1 hts gX2_firstGreater_X2_lengthOf rfl rfl rfl (by decide +kernel) ⟨Nat.le_of_ble_eq_true rfl, Nat.le_of_ble_eq_true rfl⟩) (xPreV hG hP hD hp (ci := 2) rfl (i := 0) rfl) rfl rfl hl.1 rfl (lv_room (Nat.le_of_ble_eq_true rfl)) dX2_firstGreater_2 ⟨Nat.zero_le _, Nat.zero_le _⟩) hP hD hS hp (fun _ => wT_adr) (fun r_1 _ H locs hf hP hD hS => ?_)
  have hP : va_P D vwCl (wT k a R P L N) H := xNilP hP
  have hD : va_D A (wT k a R P L N) := xNilD hD
  refine lv_istore_n (lv' := [(3, .int r_1), (0, .ref (a 0)), (1, .int x1), (2, .int x2)]) hx hb dX2_firstGreater_5 rfl hl (by decide) rfl (fun ls hl => ?_)
  refine lv_iconst (v := 0) hx hb dX2_firstGreater_6 (by decide) ?_
  refine lv_istore (lv' := [(4, .int 0), (3, .int r_1), (0, .ref (a 0)), (1, .int x1), (2, .int x2)]) hx hb dX2_firstGreater_7 hl (by decide) rfl (fun ls hl => ?_)
  obtain ⟨n_6, hf⟩ := hf
  exact k_X2_firstGreater_9 C0 hG n_6 r_1 0 _ _ _ hf hP hD hS (lv_sub hl [2, 3, 4, 1, 0] rfl)

def p_X2_insert_4 (x1 : Int32) (post : Int32 → Int32 → Int32 → (Nat → Int32) → (Nat → Nat → Int32) → Prop) : Nat → Int32 → Int32 → (Nat → Int32) → (Nat → Nat → Int32) → Int32 → Int32 → Prop
  | 0, _, _, _, _, _, _ => False
  | n + 1, R, P, L, N, x2, x3 => ((9 ≤ x3 → post 9 R P L N) ∧ (¬ 9 ≤ x3 → p_X2_firstGreater L N x3 x2 (fun r_2 => p_X2_has L x3 r_2 (fun r_3 => ((r_3 = 0 → p_X2_append R P L N x3 x2 (fun R_7 P_8 L_9 N_10 => post x3 R_7 P_8 L_9 N_10)) ∧ (¬ r_3 = 0 → p_X2_exchange L N x3 r_2 x2 (fun r_6 N_5 => p_X2_insert_4 x1 post n R P L N_5 r_6 (x3 + 1))))))))
def p_X2_insert (R : Int32) (P : Int32) (L : Nat → Int32) (N : Nat → Nat → Int32) (x1 : Int32) (post : Int32 → Int32 → Int32 → (Nat → Int32) → (Nat → Nat → Int32) → Prop) : Prop := (∃ n_11, p_X2_insert_4 x1 post n_11 R P L N x1 0)
set_option maxHeartbeats 4000000 in
set_option maxRecDepth 100000 in
theorem k_X2_insert_4 {p : Program} {l : Launch} {e : Env} {s : State} {m : MethodId} {args : Array Value} {below : List Frame} {meth : Method} {c : Code} {A : Nat → Prop} {D : va_G} {k : Nat → ClassId} {a : Nat → Nat} {x1 : Int32} (C0 : xM p s m args meth c cX2_insert 5 RX2 (some .int) wsX2_insert) (hG : xG D k s) {post : Int32 → Int32 → Int32 → (Nat → Int32) → (Nat → Nat → Int32) → Prop} : ∀ (n : Nat) (R : Int32) (P : Int32) (L : Nat → Int32) (N : Nat → Nat → Int32) (x2 : Int32) (x3 : Int32) (H : Heap) (locs : List Loc) (ls : Array Slot), p_X2_insert_4 x1 post n R P L N x2 x3 → va_P D vwCl (wT k a R P L N) H → va_D A (wT k a R P L N) → va_S A s.heap H locs → lv_has ls 5 [(0, .ref (a 0)), (2, .int x2), (3, .int x3)] → W p l e ({ frames := 3, cells := 0, slots := 0, locals := 67 }) s m args below meth c H locs 0 0 (MQ below (va_Qi (fun (r : Int32) (u : Int32 × Int32 × (Nat → Int32) × (Nat → Nat → Int32)) => post r u.1 u.2.1 u.2.2.1 u.2.2.2) (fun u t => va_P D vwCl (wT k a (u.1) (u.2.1) (u.2.2.1) (u.2.2.2)) t.heap) A) args s 0 0 A) (F0 m 4 ls []) := by
  obtain ⟨hx, hb, hr, hts, hown, hlocks, hml⟩ := id C0
  intro n
  induction n with
  | zero =>
    intro R P L N x2 x3 H locs ls hf
    exact False.elim hf
  | succ n ih =>
    intro R P L N x2 x3 H locs ls hf hP hD hS hl
    unfold p_X2_insert_4 at hf
    refine lv_iload_n hx hb dX2_insert_4 rfl (lv_at hl 2 rfl) ?_
    refine lv_bipush (v := 9) hx hb dX2_insert_5 (by decide) ?_
    refine lv_icmp_ge (tgt := 51) hx hb dX2_insert_7 (by decide) (fun c_1 => ?_) (fun c_1 => ?_)
    · have hf := hf.1 c_1
      refine lv_bipush (v := 9) hx hb dX2_insert_51 (by decide) ?_
      exact W.iret (v := 9) hx hb hr (fun t ht hW => ⟨⟨(9 : Int32), (R, P, L, N), rfl, hf, xHp ht hP⟩, hS.F ht⟩) hS.2.2 dX2_insert_53 hlocks
    · have hf := hf.2 c_1
      refine lv_aload_n hx hb dX2_insert_10 rfl (lv_at hl 0 rfl) ?_
      refine lv_iload_n hx hb dX2_insert_11 rfl (lv_at hl 2 rfl) ?_
      refine lv_iload_n hx hb dX2_insert_12 rfl (lv_at hl 1 rfl) ?_
      have hp : xPerm (wT k a R P L N) ((wT k a R P L N) ++ ([])) := xPermNil
      refine xCallI (w := wT k a R P L N) (r := []) (va_runV (As := [.int x3, .int x2]) (rest := []) ⟨hx, hb, hml, hown, hts⟩ (c_X2_firstGreater a R P L N x3 x2 hf) (cwV 2 hts gX2_insert_X2_firstGreater rfl rfl rfl (by decide +kernel) ⟨Nat.le_of_ble_eq_true rfl, Nat.le_of_ble_eq_true rfl⟩) (xPreV hG hP hD hp (ci := 2) rfl (i := 0) rfl) rfl rfl hl.1 rfl (lv_room (Nat.le_of_ble_eq_true rfl)) dX2_insert_13 ⟨Nat.zero_le _, Nat.zero_le _⟩) hP hD hS hp (fun _ => wT_adr) (fun r_2 _ H locs hf hP hD hS => ?_)
      have hP : va_P D vwCl (wT k a R P L N) H := xNilP hP
      have hD : va_D A (wT k a R P L N) := xNilD hD
      refine lv_istore (lv' := [(4, .int r_2), (0, .ref (a 0)), (2, .int x2), (3, .int x3)]) hx hb dX2_insert_16 hl (by decide) rfl (fun ls hl => ?_)
      refine lv_aload_n hx hb dX2_insert_18 rfl (lv_at hl 1 rfl) ?_
      refine lv_iload_n hx hb dX2_insert_19 rfl (lv_at hl 3 rfl) ?_
      refine lv_iload hx hb dX2_insert_20 (lv_at hl 0 rfl) ?_
      have hp : xPerm (wT k a R P L N) ((wT k a R P L N) ++ ([])) := xPermNil
      refine xCallI (w := wT k a R P L N) (r := []) (va_runV (As := [.int x3, .int r_2]) (rest := []) ⟨hx, hb, hml, hown, hts⟩ (c_X2_has a R P L N x3 r_2 hf) (cwV 2 hts gX2_insert_X2_has rfl rfl rfl (by decide +kernel) ⟨Nat.le_of_ble_eq_true rfl, Nat.le_of_ble_eq_true rfl⟩) (xPreV hG hP hD hp (ci := 2) rfl (i := 0) rfl) rfl rfl hl.1 rfl (lv_room (Nat.le_of_ble_eq_true rfl)) dX2_insert_22 ⟨Nat.zero_le _, Nat.zero_le _⟩) hP hD hS hp (fun _ => wT_adr) (fun r_3 _ H locs hf hP hD hS => ?_)
      have hP : va_P D vwCl (wT k a R P L N) H := xNilP hP
      have hD : va_D A (wT k a R P L N) := xNilD hD
      refine lv_if_ne (tgt := 36) hx hb dX2_insert_25 (by decide) (fun c_4 => ?_) (fun c_4 => ?_)
      · have hf := hf.2 c_4
        refine lv_aload_n hx hb dX2_insert_36 rfl (lv_at hl 1 rfl) ?_
        refine lv_iload_n hx hb dX2_insert_37 rfl (lv_at hl 3 rfl) ?_
        refine lv_iload hx hb dX2_insert_38 (lv_at hl 0 rfl) ?_
        refine lv_iload_n hx hb dX2_insert_40 rfl (lv_at hl 2 rfl) ?_
        have hp : xPerm (wT k a R P L N) ((wT k a R P L N) ++ ([])) := xPermNil
        refine xCallI (w := wT k a R P L N) (r := []) (va_runV (As := [.int x3, .int r_2, .int x2]) (rest := []) ⟨hx, hb, hml, hown, hts⟩ (c_X2_exchange a R P L N x3 r_2 x2 hf) (cwV 3 hts gX2_insert_X2_exchange rfl rfl rfl (by decide +kernel) ⟨Nat.le_of_ble_eq_true rfl, Nat.le_of_ble_eq_true rfl⟩) (xPreV hG hP hD hp (ci := 2) rfl (i := 0) rfl) rfl rfl hl.1 rfl (lv_room (Nat.le_of_ble_eq_true rfl)) dX2_insert_41 ⟨Nat.zero_le _, Nat.zero_le _⟩) hP hD hS hp (fun _ => wT_adr) (fun r_6 N_5 H locs hf hP hD hS => ?_)
        have hP : va_P D vwCl (wT k a R P L N_5) H := xNilP hP
        have hD : va_D A (wT k a R P L N_5) := xNilD hD
        refine lv_istore_n (lv' := [(2, .int r_6), (4, .int r_2), (0, .ref (a 0)), (3, .int x3)]) hx hb dX2_insert_44 rfl hl (by decide) rfl (fun ls hl => ?_)
        refine lv_iinc (v := x3 + 1) (lv' := [(3, .int (x3 + 1)), (2, .int r_6), (4, .int r_2), (0, .ref (a 0))]) hx hb dX2_insert_45 hl (k := 3) rfl rfl (by decide) rfl (fun ls hl => ?_)
        refine lv_goto (tgt := 4) hx hb dX2_insert_48 (by decide) ?_
        exact ih R P L N_5 r_6 (x3 + 1) _ _ _ hf hP hD hS (lv_sub hl [3, 1, 0] rfl)
      · have hf := hf.1 c_4
        refine lv_aload_n hx hb dX2_insert_28 rfl (lv_at hl 1 rfl) ?_
        refine lv_iload_n hx hb dX2_insert_29 rfl (lv_at hl 3 rfl) ?_
        refine lv_iload_n hx hb dX2_insert_30 rfl (lv_at hl 2 rfl) ?_
        have hp : xPerm (wT k a R P L N) ((wT k a R P L N) ++ ([])) := xPermNil
        refine xCallV (w := wT k a R P L N) (r := []) (va_runV (As := [.int x3, .int x2]) (rest := []) ⟨hx, hb, hml, hown, hts⟩ (c_X2_append a R P L N x3 x2 hf) (cwV 2 hts gX2_insert_X2_append rfl rfl rfl (by decide +kernel) ⟨Nat.le_of_ble_eq_true rfl, Nat.le_of_ble_eq_true rfl⟩) (xPreV hG hP hD hp (ci := 2) rfl (i := 0) rfl) rfl rfl hl.1 rfl (lv_room (Nat.le_of_ble_eq_true rfl)) dX2_insert_31 ⟨Nat.zero_le _, Nat.zero_le _⟩) hP hD hS hp (fun _ => wT_adr) (fun u H locs hf hP hD hS => ?_)
        obtain ⟨R_7, P_8, L_9, N_10⟩ := u
        have hP : va_P D vwCl (wT k a R_7 P_8 L_9 N_10) H := xNilP hP
        have hD : va_D A (wT k a R_7 P_8 L_9 N_10) := xNilD hD
        refine lv_iload_n hx hb dX2_insert_34 rfl (lv_at hl 3 rfl) ?_
        exact W.iret (v := x3) hx hb hr (fun t ht hW => ⟨⟨x3, (R_7, P_8, L_9, N_10), rfl, hf, xHp ht hP⟩, hS.F ht⟩) hS.2.2 dX2_insert_35 hlocks
set_option maxHeartbeats 4000000 in
set_option maxRecDepth 100000 in
theorem c_X2_insert {l : Launch} {D : va_G} {k : Nat → ClassId} (a : Nat → Nat) (R : Int32) (P : Int32) (L : Nat → Int32) (N : Nat → Nat → Int32) (x1 : Int32) {post : Int32 → Int32 → Int32 → (Nat → Int32) → (Nat → Nat → Int32) → Prop} (hf : p_X2_insert R P L N x1 post) : ctI l yX2_insert wsX2_insert ({ frames := 3, cells := 0, slots := 0, locals := 67 }) D k [.ref (a 0), .int x1] (wT k a R P L N) (fun u : Int32 × Int32 × (Nat → Int32) × (Nat → Nat → Int32) => wT k a (u.1) (u.2.1) (u.2.2.1) (u.2.2.2)) (fun (r : Int32) (u : Int32 × Int32 × (Nat → Int32) × (Nat → Nat → Int32)) => post r u.1 u.2.1 u.2.2.1 u.2.2.2) := by
  refine Met.ofW (cc := cX2_insert) (maxL := 5) (ret := (some .int)) (by decide) rfl ?_
  intro p e s m args below meth c s₁ B hml hv
  obtain ⟨rfl, hP, hG, hD0⟩ := hv
  have C0 : xM p s m ([.ref (a 0), .int x1] : List Value).toArray meth c cX2_insert 5 RX2 (some .int) wsX2_insert := ⟨B.exec, B.bytes, B.returns, atoms_spec (ws := wsX2_insert) B.pre, findClass_of_methodNamed B.named, B.notSynchronized, hml⟩
  obtain ⟨hx, hb, hr, hts, hown, hlocks, hml⟩ := id C0
  have hD := xSelf hD0
  have hS : va_S (xIn (wT k a R P L N)) s.heap s.heap [] := va_S.rf
  generalize xIn (wT k a R P L N) = A at hD hS ⊢
  have hl := lv_entry ([.ref (a 0), .int x1]) (n := 5) (Nat.le_of_ble_eq_true rfl)
  rw [lg_entry_eq]
  generalize (lg_sl ([.ref (a 0), .int x1]) ++ List.replicate (5 - (lg_sl ([.ref (a 0), .int x1])).length) Slot.unset).toArray = ls at hl ⊢
  have hl : lv_has ls 5 [(0, .ref (a 0)), (1, .int x1)] := hl
  unfold p_X2_insert at hf
  refine lv_iload_n hx hb dX2_insert_0 rfl (lv_at hl 1 rfl) ?_
  refine lv_istore_n (lv' := [(2, .int x1), (0, .ref (a 0)), (1, .int x1)]) hx hb dX2_insert_1 rfl hl (by decide) rfl (fun ls hl => ?_)
  refine lv_iconst (v := 0) hx hb dX2_insert_2 (by decide) ?_
  refine lv_istore_n (lv' := [(3, .int 0), (2, .int x1), (0, .ref (a 0)), (1, .int x1)]) hx hb dX2_insert_3 rfl hl (by decide) rfl (fun ls hl => ?_)
  obtain ⟨n_11, hf⟩ := hf
  exact k_X2_insert_4 C0 hG n_11 R P L N x1 0 _ _ _ hf hP hD hS (lv_sub hl [2, 1, 0] rfl)

def p_X2_lastLess_8 (L : Nat → Int32) (N : Nat → Nat → Int32) (x1 : Int32) (x2 : Int32) (post : Int32 → Prop) : Nat → Int32 → Prop
  | 0, _ => False
  | n + 1, x3 => ((x3 < 0 → post x3) ∧ (¬ x3 < 0 → (vp_in x1 9 ∧ (vp_in x3 40 ∧ (((N (x1.toNatClampNeg) x3.toNatClampNeg) < x2 → post x3) ∧ (¬ (N (x1.toNatClampNeg) x3.toNatClampNeg) < x2 → p_X2_lastLess_8 L N x1 x2 post n (x3 + (-1))))))))
def p_X2_lastLess (L : Nat → Int32) (N : Nat → Nat → Int32) (x1 : Int32) (x2 : Int32) (post : Int32 → Prop) : Prop := p_X2_lengthOf L x1 (fun r_1 => (∃ n_6, p_X2_lastLess_8 L N x1 x2 post n_6 (r_1 - 1)))
theorem in_X2_lastLess_X2 : ∀ w ∈ u_ws RX2 TX2 4, w ∈ wsX2_lastLess := by decide +kernel
theorem lk_X2_lastLess_11 : Cond.fieldLink RX2 11 "GrowingCorners$Tableau" "numbers" "[[I" ∈ wsX2_lastLess := by decide +kernel
set_option maxHeartbeats 4000000 in
set_option maxRecDepth 100000 in
theorem k_X2_lastLess_8 {p : Program} {l : Launch} {e : Env} {s : State} {m : MethodId} {args : Array Value} {below : List Frame} {meth : Method} {c : Code} {A : Nat → Prop} {D : va_G} {k : Nat → ClassId} {a : Nat → Nat} {R : Int32} {P : Int32} {L : Nat → Int32} {N : Nat → Nat → Int32} {x1 : Int32} {x2 : Int32} (C0 : xM p s m args meth c cX2_lastLess 4 RX2 (some .int) wsX2_lastLess) (hG : xG D k s) {post : Int32 → Prop} : ∀ (n : Nat) (x3 : Int32) (H : Heap) (locs : List Loc) (ls : Array Slot), p_X2_lastLess_8 L N x1 x2 post n x3 → va_P D vwCl (wT k a R P L N) H → va_D A (wT k a R P L N) → va_S A s.heap H locs → lv_has ls 4 [(0, .ref (a 0)), (1, .int x1), (2, .int x2), (3, .int x3)] → W p l e ({ frames := 1, cells := 0, slots := 0, locals := 21 }) s m args below meth c H locs 0 0 (MQ below (va_Qi (fun (r : Int32) (u : Unit) => post r) (fun u t => va_P D vwCl (wT k a R P L N) t.heap) A) args s 0 0 A) (F0 m 8 ls []) := by
  obtain ⟨hx, hb, hr, hts, hown, hlocks, hml⟩ := id C0
  intro n
  induction n with
  | zero =>
    intro x3 H locs ls hf
    exact False.elim hf
  | succ n ih =>
    intro x3 H locs ls hf hP hD hS hl
    unfold p_X2_lastLess_8 at hf
    refine lv_iload_n hx hb dX2_lastLess_8 rfl (lv_at hl 3 rfl) ?_
    refine lv_if_lt (tgt := 30) hx hb dX2_lastLess_9 (by decide) (fun c_2 => ?_) (fun c_2 => ?_)
    · have hf := hf.1 c_2
      refine lv_iload_n hx hb dX2_lastLess_30 rfl (lv_at hl 3 rfl) ?_
      exact W.iret (v := x3) hx hb hr (fun t ht hW => ⟨⟨x3, (), rfl, hf, xHp ht hP⟩, hS.F ht⟩) hS.2.2 dX2_lastLess_31 hlocks
    · have hf := hf.2 c_2
      refine lv_aload_n hx hb dX2_lastLess_12 rfl (lv_at hl 0 rfl) ?_
      refine va_get (D := D) (ci := 2) (C := RX2) (T := TX2) (N := 4) hx hb hts in_X2_lastLess_X2 hown hG.1 hP 0 rfl rfl 0 (by decide) (hts _ lk_X2_lastLess_11) (fun _ h9 => h9) rfl dX2_lastLess_13 ?_
      refine lv_iload_n hx hb dX2_lastLess_16 rfl (lv_at hl 1 rfl) ?_
      obtain ⟨h_3, hf⟩ := hf
      refine xAald (f := fun i => a (i + 3)) hx hb hG.1 hP 1 3 rfl rfl h_3 dX2_lastLess_17 ?_
      refine lv_iload_n hx hb dX2_lastLess_18 rfl (lv_at hl 3 rfl) ?_
      obtain ⟨h_4, hf⟩ := hf
      refine va_iald hx hb hG.1 hP (x1.toNatClampNeg + 3) 0 (wT_row (vp_lt h_3)) rfl h_4 dX2_lastLess_19 ?_
      refine lv_iload_n hx hb dX2_lastLess_20 rfl (lv_at hl 2 rfl) ?_
      refine lv_icmp_lt (tgt := 30) hx hb dX2_lastLess_21 (by decide) (fun c_5 => ?_) (fun c_5 => ?_)
      · have hf := hf.1 c_5
        refine lv_iload_n hx hb dX2_lastLess_30 rfl (lv_at hl 3 rfl) ?_
        exact W.iret (v := x3) hx hb hr (fun t ht hW => ⟨⟨x3, (), rfl, hf, xHp ht hP⟩, hS.F ht⟩) hS.2.2 dX2_lastLess_31 hlocks
      · have hf := hf.2 c_5
        refine lv_iinc (v := x3 + (-1)) (lv' := [(3, .int (x3 + (-1))), (0, .ref (a 0)), (1, .int x1), (2, .int x2)]) hx hb dX2_lastLess_24 hl (k := 3) rfl rfl (by decide) rfl (fun ls hl => ?_)
        refine lv_goto (tgt := 8) hx hb dX2_lastLess_27 (by decide) ?_
        exact ih (x3 + (-1)) _ _ _ hf hP hD hS (lv_sub hl [1, 2, 3, 0] rfl)
set_option maxHeartbeats 4000000 in
set_option maxRecDepth 100000 in
theorem c_X2_lastLess {l : Launch} {D : va_G} {k : Nat → ClassId} (a : Nat → Nat) (R : Int32) (P : Int32) (L : Nat → Int32) (N : Nat → Nat → Int32) (x1 : Int32) (x2 : Int32) {post : Int32 → Prop} (hf : p_X2_lastLess L N x1 x2 post) : ctI l yX2_lastLess wsX2_lastLess ({ frames := 1, cells := 0, slots := 0, locals := 21 }) D k [.ref (a 0), .int x1, .int x2] (wT k a R P L N) (fun u : Unit => wT k a R P L N) (fun (r : Int32) (u : Unit) => post r) := by
  refine Met.ofW (cc := cX2_lastLess) (maxL := 4) (ret := (some .int)) (by decide) rfl ?_
  intro p e s m args below meth c s₁ B hml hv
  obtain ⟨rfl, hP, hG, hD0⟩ := hv
  have C0 : xM p s m ([.ref (a 0), .int x1, .int x2] : List Value).toArray meth c cX2_lastLess 4 RX2 (some .int) wsX2_lastLess := ⟨B.exec, B.bytes, B.returns, atoms_spec (ws := wsX2_lastLess) B.pre, findClass_of_methodNamed B.named, B.notSynchronized, hml⟩
  obtain ⟨hx, hb, hr, hts, hown, hlocks, hml⟩ := id C0
  have hD := xSelf hD0
  have hS : va_S (xIn (wT k a R P L N)) s.heap s.heap [] := va_S.rf
  generalize xIn (wT k a R P L N) = A at hD hS ⊢
  have hl := lv_entry ([.ref (a 0), .int x1, .int x2]) (n := 4) (Nat.le_of_ble_eq_true rfl)
  rw [lg_entry_eq]
  generalize (lg_sl ([.ref (a 0), .int x1, .int x2]) ++ List.replicate (4 - (lg_sl ([.ref (a 0), .int x1, .int x2])).length) Slot.unset).toArray = ls at hl ⊢
  have hl : lv_has ls 4 [(0, .ref (a 0)), (1, .int x1), (2, .int x2)] := hl
  unfold p_X2_lastLess at hf
  refine lv_aload_n hx hb dX2_lastLess_0 rfl (lv_at hl 0 rfl) ?_
  refine lv_iload_n hx hb dX2_lastLess_1 rfl (lv_at hl 1 rfl) ?_
  have hp : xPerm (wT k a R P L N) ((wT k a R P L N) ++ ([])) := xPermNil
  refine xCallI (w := wT k a R P L N) (r := []) (va_runV (As := [.int x1]) (rest := []) ⟨hx, hb, hml, hown, hts⟩ (c_X2_lengthOf a R P L N x1 hf) (cwV 1 hts gX2_lastLess_X2_lengthOf rfl rfl rfl (by decide +kernel) ⟨Nat.le_of_ble_eq_true rfl, Nat.le_of_ble_eq_true rfl⟩) (xPreV hG hP hD hp (ci := 2) rfl (i := 0) rfl) rfl rfl hl.1 rfl (lv_room (Nat.le_of_ble_eq_true rfl)) dX2_lastLess_2 ⟨Nat.zero_le _, Nat.zero_le _⟩) hP hD hS hp (fun _ => wT_adr) (fun r_1 _ H locs hf hP hD hS => ?_)
  have hP : va_P D vwCl (wT k a R P L N) H := xNilP hP
  have hD : va_D A (wT k a R P L N) := xNilD hD
  refine lv_iconst (v := 1) hx hb dX2_lastLess_5 (by decide) ?_
  refine lv_isub hx hb dX2_lastLess_6 ?_
  refine lv_istore_n (lv' := [(3, .int (r_1 - 1)), (0, .ref (a 0)), (1, .int x1), (2, .int x2)]) hx hb dX2_lastLess_7 rfl hl (by decide) rfl (fun ls hl => ?_)
  obtain ⟨n_6, hf⟩ := hf
  exact k_X2_lastLess_8 C0 hG n_6 (r_1 - 1) _ _ _ hf hP hD hS (lv_sub hl [1, 2, 3, 0] rfl)

def p_X2_takeOut_10 (x1 : Int32) (post : Int32 → Int32 → Int32 → (Nat → Int32) → (Nat → Nat → Int32) → Prop) : Nat → Int32 → Int32 → (Nat → Int32) → (Nat → Nat → Int32) → Int32 → Int32 → Prop
  | 0, _, _, _, _, _, _ => False
  | n + 1, R, P, L, N, x2, x3 => ((x3 < 0 → post x2 R P L N) ∧ (¬ x3 < 0 → p_X2_lastLess L N x3 x2 (fun r_6 => p_X2_exchange L N x3 r_6 x2 (fun r_8 N_7 => p_X2_takeOut_10 x1 post n R P L N_7 r_8 (x3 + (-1))))))
def p_X2_takeOut (R : Int32) (P : Int32) (L : Nat → Int32) (N : Nat → Nat → Int32) (x1 : Int32) (post : Int32 → Int32 → Int32 → (Nat → Int32) → (Nat → Nat → Int32) → Prop) : Prop := p_X2_takeLast R P L N x1 (fun r_4 R_1 P_2 L_3 => (∃ n_9, p_X2_takeOut_10 x1 post n_9 R_1 P_2 L_3 N r_4 (x1 - 1)))
set_option maxHeartbeats 4000000 in
set_option maxRecDepth 100000 in
theorem k_X2_takeOut_10 {p : Program} {l : Launch} {e : Env} {s : State} {m : MethodId} {args : Array Value} {below : List Frame} {meth : Method} {c : Code} {A : Nat → Prop} {D : va_G} {k : Nat → ClassId} {a : Nat → Nat} {x1 : Int32} (C0 : xM p s m args meth c cX2_takeOut 4 RX2 (some .int) wsX2_takeOut) (hG : xG D k s) {post : Int32 → Int32 → Int32 → (Nat → Int32) → (Nat → Nat → Int32) → Prop} : ∀ (n : Nat) (R : Int32) (P : Int32) (L : Nat → Int32) (N : Nat → Nat → Int32) (x2 : Int32) (x3 : Int32) (H : Heap) (locs : List Loc) (ls : Array Slot), p_X2_takeOut_10 x1 post n R P L N x2 x3 → va_P D vwCl (wT k a R P L N) H → va_D A (wT k a R P L N) → va_S A s.heap H locs → lv_has ls 4 [(0, .ref (a 0)), (2, .int x2), (3, .int x3)] → W p l e ({ frames := 3, cells := 0, slots := 0, locals := 67 }) s m args below meth c H locs 0 0 (MQ below (va_Qi (fun (r : Int32) (u : Int32 × Int32 × (Nat → Int32) × (Nat → Nat → Int32)) => post r u.1 u.2.1 u.2.2.1 u.2.2.2) (fun u t => va_P D vwCl (wT k a (u.1) (u.2.1) (u.2.2.1) (u.2.2.2)) t.heap) A) args s 0 0 A) (F0 m 10 ls []) := by
  obtain ⟨hx, hb, hr, hts, hown, hlocks, hml⟩ := id C0
  intro n
  induction n with
  | zero =>
    intro R P L N x2 x3 H locs ls hf
    exact False.elim hf
  | succ n ih =>
    intro R P L N x2 x3 H locs ls hf hP hD hS hl
    unfold p_X2_takeOut_10 at hf
    refine lv_iload_n hx hb dX2_takeOut_10 rfl (lv_at hl 2 rfl) ?_
    refine lv_if_lt (tgt := 33) hx hb dX2_takeOut_11 (by decide) (fun c_5 => ?_) (fun c_5 => ?_)
    · have hf := hf.1 c_5
      refine lv_iload_n hx hb dX2_takeOut_33 rfl (lv_at hl 1 rfl) ?_
      exact W.iret (v := x2) hx hb hr (fun t ht hW => ⟨⟨x2, (R, P, L, N), rfl, hf, xHp ht hP⟩, hS.F ht⟩) hS.2.2 dX2_takeOut_34 hlocks
    · have hf := hf.2 c_5
      refine lv_aload_n hx hb dX2_takeOut_14 rfl (lv_at hl 0 rfl) ?_
      refine lv_iload_n hx hb dX2_takeOut_15 rfl (lv_at hl 2 rfl) ?_
      refine lv_aload_n hx hb dX2_takeOut_16 rfl (lv_at hl 0 rfl) ?_
      refine lv_iload_n hx hb dX2_takeOut_17 rfl (lv_at hl 2 rfl) ?_
      refine lv_iload_n hx hb dX2_takeOut_18 rfl (lv_at hl 1 rfl) ?_
      have hp : xPerm (wT k a R P L N) ((wT k a R P L N) ++ ([])) := xPermNil
      refine xCallI (w := wT k a R P L N) (r := []) (va_runV (As := [.int x3, .int x2]) (rest := [.int x3, .ref (a 0)]) ⟨hx, hb, hml, hown, hts⟩ (c_X2_lastLess a R P L N x3 x2 hf) (cwV 2 hts gX2_takeOut_X2_lastLess rfl rfl rfl (by decide +kernel) ⟨Nat.le_of_ble_eq_true rfl, Nat.le_of_ble_eq_true rfl⟩) (xPreV hG hP hD hp (ci := 2) rfl (i := 0) rfl) rfl rfl hl.1 rfl (lv_room (Nat.le_of_ble_eq_true rfl)) dX2_takeOut_19 ⟨Nat.zero_le _, Nat.zero_le _⟩) hP hD hS hp (fun _ => wT_adr) (fun r_6 _ H locs hf hP hD hS => ?_)
      have hP : va_P D vwCl (wT k a R P L N) H := xNilP hP
      have hD : va_D A (wT k a R P L N) := xNilD hD
      refine lv_iload_n hx hb dX2_takeOut_22 rfl (lv_at hl 1 rfl) ?_
      have hp : xPerm (wT k a R P L N) ((wT k a R P L N) ++ ([])) := xPermNil
      refine xCallI (w := wT k a R P L N) (r := []) (va_runV (As := [.int x3, .int r_6, .int x2]) (rest := []) ⟨hx, hb, hml, hown, hts⟩ (c_X2_exchange a R P L N x3 r_6 x2 hf) (cwV 3 hts gX2_takeOut_X2_exchange rfl rfl rfl (by decide +kernel) ⟨Nat.le_of_ble_eq_true rfl, Nat.le_of_ble_eq_true rfl⟩) (xPreV hG hP hD hp (ci := 2) rfl (i := 0) rfl) rfl rfl hl.1 rfl (lv_room (Nat.le_of_ble_eq_true rfl)) dX2_takeOut_23 ⟨Nat.zero_le _, Nat.zero_le _⟩) hP hD hS hp (fun _ => wT_adr) (fun r_8 N_7 H locs hf hP hD hS => ?_)
      have hP : va_P D vwCl (wT k a R P L N_7) H := xNilP hP
      have hD : va_D A (wT k a R P L N_7) := xNilD hD
      refine lv_istore_n (lv' := [(2, .int r_8), (0, .ref (a 0)), (3, .int x3)]) hx hb dX2_takeOut_26 rfl hl (by decide) rfl (fun ls hl => ?_)
      refine lv_iinc (v := x3 + (-1)) (lv' := [(3, .int (x3 + (-1))), (2, .int r_8), (0, .ref (a 0))]) hx hb dX2_takeOut_27 hl (k := 2) rfl rfl (by decide) rfl (fun ls hl => ?_)
      refine lv_goto (tgt := 10) hx hb dX2_takeOut_30 (by decide) ?_
      exact ih R P L N_7 r_8 (x3 + (-1)) _ _ _ hf hP hD hS (lv_sub hl [2, 1, 0] rfl)
set_option maxHeartbeats 4000000 in
set_option maxRecDepth 100000 in
theorem c_X2_takeOut {l : Launch} {D : va_G} {k : Nat → ClassId} (a : Nat → Nat) (R : Int32) (P : Int32) (L : Nat → Int32) (N : Nat → Nat → Int32) (x1 : Int32) {post : Int32 → Int32 → Int32 → (Nat → Int32) → (Nat → Nat → Int32) → Prop} (hf : p_X2_takeOut R P L N x1 post) : ctI l yX2_takeOut wsX2_takeOut ({ frames := 3, cells := 0, slots := 0, locals := 67 }) D k [.ref (a 0), .int x1] (wT k a R P L N) (fun u : Int32 × Int32 × (Nat → Int32) × (Nat → Nat → Int32) => wT k a (u.1) (u.2.1) (u.2.2.1) (u.2.2.2)) (fun (r : Int32) (u : Int32 × Int32 × (Nat → Int32) × (Nat → Nat → Int32)) => post r u.1 u.2.1 u.2.2.1 u.2.2.2) := by
  refine Met.ofW (cc := cX2_takeOut) (maxL := 4) (ret := (some .int)) (by decide) rfl ?_
  intro p e s m args below meth c s₁ B hml hv
  obtain ⟨rfl, hP, hG, hD0⟩ := hv
  have C0 : xM p s m ([.ref (a 0), .int x1] : List Value).toArray meth c cX2_takeOut 4 RX2 (some .int) wsX2_takeOut := ⟨B.exec, B.bytes, B.returns, atoms_spec (ws := wsX2_takeOut) B.pre, findClass_of_methodNamed B.named, B.notSynchronized, hml⟩
  obtain ⟨hx, hb, hr, hts, hown, hlocks, hml⟩ := id C0
  have hD := xSelf hD0
  have hS : va_S (xIn (wT k a R P L N)) s.heap s.heap [] := va_S.rf
  generalize xIn (wT k a R P L N) = A at hD hS ⊢
  have hl := lv_entry ([.ref (a 0), .int x1]) (n := 4) (Nat.le_of_ble_eq_true rfl)
  rw [lg_entry_eq]
  generalize (lg_sl ([.ref (a 0), .int x1]) ++ List.replicate (4 - (lg_sl ([.ref (a 0), .int x1])).length) Slot.unset).toArray = ls at hl ⊢
  have hl : lv_has ls 4 [(0, .ref (a 0)), (1, .int x1)] := hl
  unfold p_X2_takeOut at hf
  refine lv_aload_n hx hb dX2_takeOut_0 rfl (lv_at hl 0 rfl) ?_
  refine lv_iload_n hx hb dX2_takeOut_1 rfl (lv_at hl 1 rfl) ?_
  have hp : xPerm (wT k a R P L N) ((wT k a R P L N) ++ ([])) := xPermNil
  refine xCallI (w := wT k a R P L N) (r := []) (va_runV (As := [.int x1]) (rest := []) ⟨hx, hb, hml, hown, hts⟩ (c_X2_takeLast a R P L N x1 hf) (cwV 1 hts gX2_takeOut_X2_takeLast rfl rfl rfl (by decide +kernel) ⟨Nat.le_of_ble_eq_true rfl, Nat.le_of_ble_eq_true rfl⟩) (xPreV hG hP hD hp (ci := 2) rfl (i := 0) rfl) rfl rfl hl.1 rfl (lv_room (Nat.le_of_ble_eq_true rfl)) dX2_takeOut_2 ⟨Nat.zero_le _, Nat.zero_le _⟩) hP hD hS hp (fun _ => wT_adr) (fun r_4 u H locs hf hP hD hS => ?_)
  obtain ⟨R_1, P_2, L_3⟩ := u
  have hP : va_P D vwCl (wT k a R_1 P_2 L_3 N) H := xNilP hP
  have hD : va_D A (wT k a R_1 P_2 L_3 N) := xNilD hD
  refine lv_istore_n (lv' := [(2, .int r_4), (0, .ref (a 0)), (1, .int x1)]) hx hb dX2_takeOut_5 rfl hl (by decide) rfl (fun ls hl => ?_)
  refine lv_iload_n hx hb dX2_takeOut_6 rfl (lv_at hl 2 rfl) ?_
  refine lv_iconst (v := 1) hx hb dX2_takeOut_7 (by decide) ?_
  refine lv_isub hx hb dX2_takeOut_8 ?_
  refine lv_istore_n (lv' := [(3, .int (x1 - 1)), (2, .int r_4), (0, .ref (a 0)), (1, .int x1)]) hx hb dX2_takeOut_9 rfl hl (by decide) rfl (fun ls hl => ?_)
  obtain ⟨n_9, hf⟩ := hf
  exact k_X2_takeOut_10 C0 hG n_9 R_1 P_2 L_3 N r_4 (x1 - 1) _ _ _ hf hP hD hS (lv_sub hl [2, 1, 0] rfl)

def p_X2_rowEndingIn_2 (R : Int32) (L : Nat → Int32) (N : Nat → Nat → Int32) (x1 : Int32) (post : Int32 → Prop) : Nat → Int32 → Prop
  | 0, _ => False
  | n + 1, x2 => ((R ≤ x2 → post 0) ∧ (¬ R ≤ x2 → (vp_in x2 9 ∧ p_X2_at L N x2 ((L x2.toNatClampNeg) - 1) (fun r_3 => ((r_3 = x1 → post x2) ∧ (¬ r_3 = x1 → p_X2_rowEndingIn_2 R L N x1 post n (x2 + 1)))))))
def p_X2_rowEndingIn (R : Int32) (L : Nat → Int32) (N : Nat → Nat → Int32) (x1 : Int32) (post : Int32 → Prop) : Prop := (∃ n_5, p_X2_rowEndingIn_2 R L N x1 post n_5 0)
theorem in_X2_rowEndingIn_X2 : ∀ w ∈ u_ws RX2 TX2 4, w ∈ wsX2_rowEndingIn := by decide +kernel
theorem lk_X2_rowEndingIn_16 : Cond.fieldLink RX2 16 "GrowingCorners$Tableau" "lengths" "[I" ∈ wsX2_rowEndingIn := by decide +kernel
theorem lk_X2_rowEndingIn_20 : Cond.fieldLink RX2 20 "GrowingCorners$Tableau" "rows" "I" ∈ wsX2_rowEndingIn := by decide +kernel
set_option maxHeartbeats 4000000 in
set_option maxRecDepth 100000 in
theorem k_X2_rowEndingIn_2 {p : Program} {l : Launch} {e : Env} {s : State} {m : MethodId} {args : Array Value} {below : List Frame} {meth : Method} {c : Code} {A : Nat → Prop} {D : va_G} {k : Nat → ClassId} {a : Nat → Nat} {R : Int32} {P : Int32} {L : Nat → Int32} {N : Nat → Nat → Int32} {x1 : Int32} (C0 : xM p s m args meth c cX2_rowEndingIn 3 RX2 (some .int) wsX2_rowEndingIn) (hG : xG D k s) {post : Int32 → Prop} : ∀ (n : Nat) (x2 : Int32) (H : Heap) (locs : List Loc) (ls : Array Slot), p_X2_rowEndingIn_2 R L N x1 post n x2 → va_P D vwCl (wT k a R P L N) H → va_D A (wT k a R P L N) → va_S A s.heap H locs → lv_has ls 3 [(0, .ref (a 0)), (1, .int x1), (2, .int x2)] → W p l e ({ frames := 3, cells := 0, slots := 0, locals := 65 }) s m args below meth c H locs 0 0 (MQ below (va_Qi (fun (r : Int32) (u : Unit) => post r) (fun u t => va_P D vwCl (wT k a R P L N) t.heap) A) args s 0 0 A) (F0 m 2 ls []) := by
  obtain ⟨hx, hb, hr, hts, hown, hlocks, hml⟩ := id C0
  intro n
  induction n with
  | zero =>
    intro x2 H locs ls hf
    exact False.elim hf
  | succ n ih =>
    intro x2 H locs ls hf hP hD hS hl
    unfold p_X2_rowEndingIn_2 at hf
    refine lv_iload_n hx hb dX2_rowEndingIn_2 rfl (lv_at hl 2 rfl) ?_
    refine lv_aload_n hx hb dX2_rowEndingIn_3 rfl (lv_at hl 0 rfl) ?_
    refine va_get (D := D) (ci := 2) (C := RX2) (T := TX2) (N := 4) hx hb hts in_X2_rowEndingIn_X2 hown hG.1 hP 0 rfl rfl 2 (by decide) (hts _ lk_X2_rowEndingIn_20) (fun _ h9 => h9) rfl dX2_rowEndingIn_4 ?_
    refine lv_icmp_ge (tgt := 35) hx hb dX2_rowEndingIn_7 (by decide) (fun c_1 => ?_) (fun c_1 => ?_)
    · have hf := hf.1 c_1
      refine lv_iconst (v := 0) hx hb dX2_rowEndingIn_35 (by decide) ?_
      exact W.iret (v := 0) hx hb hr (fun t ht hW => ⟨⟨(0 : Int32), (), rfl, hf, xHp ht hP⟩, hS.F ht⟩) hS.2.2 dX2_rowEndingIn_36 hlocks
    · have hf := hf.2 c_1
      refine lv_aload_n hx hb dX2_rowEndingIn_10 rfl (lv_at hl 0 rfl) ?_
      refine lv_iload_n hx hb dX2_rowEndingIn_11 rfl (lv_at hl 2 rfl) ?_
      refine lv_aload_n hx hb dX2_rowEndingIn_12 rfl (lv_at hl 0 rfl) ?_
      refine va_get (D := D) (ci := 2) (C := RX2) (T := TX2) (N := 4) hx hb hts in_X2_rowEndingIn_X2 hown hG.1 hP 0 rfl rfl 1 (by decide) (hts _ lk_X2_rowEndingIn_16) (fun _ h9 => h9) rfl dX2_rowEndingIn_13 ?_
      refine lv_iload_n hx hb dX2_rowEndingIn_16 rfl (lv_at hl 2 rfl) ?_
      obtain ⟨h_2, hf⟩ := hf
      refine va_iald hx hb hG.1 hP 2 0 rfl rfl h_2 dX2_rowEndingIn_17 ?_
      refine lv_iconst (v := 1) hx hb dX2_rowEndingIn_18 (by decide) ?_
      refine lv_isub hx hb dX2_rowEndingIn_19 ?_
      have hp : xPerm (wT k a R P L N) ((wT k a R P L N) ++ ([])) := xPermNil
      refine xCallI (w := wT k a R P L N) (r := []) (va_runV (As := [.int x2, .int ((L x2.toNatClampNeg) - 1)]) (rest := []) ⟨hx, hb, hml, hown, hts⟩ (c_X2_at a R P L N x2 ((L x2.toNatClampNeg) - 1) hf) (cwV 2 hts gX2_rowEndingIn_X2_at rfl rfl rfl (by decide +kernel) ⟨Nat.le_of_ble_eq_true rfl, Nat.le_of_ble_eq_true rfl⟩) (xPreV hG hP hD hp (ci := 2) rfl (i := 0) rfl) rfl rfl hl.1 rfl (lv_room (Nat.le_of_ble_eq_true rfl)) dX2_rowEndingIn_20 ⟨Nat.zero_le _, Nat.zero_le _⟩) hP hD hS hp (fun _ => wT_adr) (fun r_3 _ H locs hf hP hD hS => ?_)
      have hP : va_P D vwCl (wT k a R P L N) H := xNilP hP
      have hD : va_D A (wT k a R P L N) := xNilD hD
      refine lv_iload_n hx hb dX2_rowEndingIn_23 rfl (lv_at hl 1 rfl) ?_
      refine lv_icmp_ne (tgt := 29) hx hb dX2_rowEndingIn_24 (by decide) (fun c_4 => ?_) (fun c_4 => ?_)
      · have hf := hf.2 c_4
        refine lv_iinc (v := x2 + 1) (lv' := [(2, .int (x2 + 1)), (0, .ref (a 0)), (1, .int x1)]) hx hb dX2_rowEndingIn_29 hl (k := 2) rfl rfl (by decide) rfl (fun ls hl => ?_)
        refine lv_goto (tgt := 2) hx hb dX2_rowEndingIn_32 (by decide) ?_
        exact ih (x2 + 1) _ _ _ hf hP hD hS (lv_sub hl [1, 2, 0] rfl)
      · have hf := hf.1 c_4
        refine lv_iload_n hx hb dX2_rowEndingIn_27 rfl (lv_at hl 2 rfl) ?_
        exact W.iret (v := x2) hx hb hr (fun t ht hW => ⟨⟨x2, (), rfl, hf, xHp ht hP⟩, hS.F ht⟩) hS.2.2 dX2_rowEndingIn_28 hlocks
set_option maxHeartbeats 4000000 in
set_option maxRecDepth 100000 in
theorem c_X2_rowEndingIn {l : Launch} {D : va_G} {k : Nat → ClassId} (a : Nat → Nat) (R : Int32) (P : Int32) (L : Nat → Int32) (N : Nat → Nat → Int32) (x1 : Int32) {post : Int32 → Prop} (hf : p_X2_rowEndingIn R L N x1 post) : ctI l yX2_rowEndingIn wsX2_rowEndingIn ({ frames := 3, cells := 0, slots := 0, locals := 65 }) D k [.ref (a 0), .int x1] (wT k a R P L N) (fun u : Unit => wT k a R P L N) (fun (r : Int32) (u : Unit) => post r) := by
  refine Met.ofW (cc := cX2_rowEndingIn) (maxL := 3) (ret := (some .int)) (by decide) rfl ?_
  intro p e s m args below meth c s₁ B hml hv
  obtain ⟨rfl, hP, hG, hD0⟩ := hv
  have C0 : xM p s m ([.ref (a 0), .int x1] : List Value).toArray meth c cX2_rowEndingIn 3 RX2 (some .int) wsX2_rowEndingIn := ⟨B.exec, B.bytes, B.returns, atoms_spec (ws := wsX2_rowEndingIn) B.pre, findClass_of_methodNamed B.named, B.notSynchronized, hml⟩
  obtain ⟨hx, hb, hr, hts, hown, hlocks, hml⟩ := id C0
  have hD := xSelf hD0
  have hS : va_S (xIn (wT k a R P L N)) s.heap s.heap [] := va_S.rf
  generalize xIn (wT k a R P L N) = A at hD hS ⊢
  have hl := lv_entry ([.ref (a 0), .int x1]) (n := 3) (Nat.le_of_ble_eq_true rfl)
  rw [lg_entry_eq]
  generalize (lg_sl ([.ref (a 0), .int x1]) ++ List.replicate (3 - (lg_sl ([.ref (a 0), .int x1])).length) Slot.unset).toArray = ls at hl ⊢
  have hl : lv_has ls 3 [(0, .ref (a 0)), (1, .int x1)] := hl
  unfold p_X2_rowEndingIn at hf
  refine lv_iconst (v := 0) hx hb dX2_rowEndingIn_0 (by decide) ?_
  refine lv_istore_n (lv' := [(2, .int 0), (0, .ref (a 0)), (1, .int x1)]) hx hb dX2_rowEndingIn_1 rfl hl (by decide) rfl (fun ls hl => ?_)
  obtain ⟨n_5, hf⟩ := hf
  exact k_X2_rowEndingIn_2 C0 hG n_5 0 _ _ _ hf hP hD hS (lv_sub hl [1, 2, 0] rfl)

def p_X2_hasShapeOf_2 (aL : Nat → Int32) (bL : Nat → Int32) (post : Int32 → Prop) : Nat → Int32 → Prop
  | 0, _ => False
  | n + 1, x2 => ((9 ≤ x2 → post 1) ∧ (¬ 9 ≤ x2 → (vp_in x2 9 ∧ p_X2_lengthOf bL x2 (fun r_3 => (((aL x2.toNatClampNeg) = r_3 → p_X2_hasShapeOf_2 aL bL post n (x2 + 1)) ∧ (¬ (aL x2.toNatClampNeg) = r_3 → post 0))))))
def p_X2_hasShapeOf (aL : Nat → Int32) (bL : Nat → Int32) (post : Int32 → Prop) : Prop := (∃ n_5, p_X2_hasShapeOf_2 aL bL post n_5 0)
theorem in_X2_hasShapeOf_X2 : ∀ w ∈ u_ws RX2 TX2 4, w ∈ wsX2_hasShapeOf := by decide +kernel
theorem lk_X2_hasShapeOf_16 : Cond.fieldLink RX2 16 "GrowingCorners$Tableau" "lengths" "[I" ∈ wsX2_hasShapeOf := by decide +kernel
set_option maxHeartbeats 4000000 in
set_option maxRecDepth 100000 in
theorem k_X2_hasShapeOf_2 {p : Program} {l : Launch} {e : Env} {s : State} {m : MethodId} {args : Array Value} {below : List Frame} {meth : Method} {c : Code} {A : Nat → Prop} {D : va_G} {k : Nat → ClassId} {aa : Nat → Nat} {ab : Nat → Nat} {aR : Int32} {aP : Int32} {aL : Nat → Int32} {aN : Nat → Nat → Int32} {bR : Int32} {bP : Int32} {bL : Nat → Int32} {bN : Nat → Nat → Int32} (C0 : xM p s m args meth c cX2_hasShapeOf 3 RX2 (some .boolean) wsX2_hasShapeOf) (hG : xG D k s) {post : Int32 → Prop} : ∀ (n : Nat) (x2 : Int32) (H : Heap) (locs : List Loc) (ls : Array Slot), p_X2_hasShapeOf_2 aL bL post n x2 → va_P D vwCl (wT k aa aR aP aL aN ++ wT k ab bR bP bL bN) H → va_D A (wT k aa aR aP aL aN ++ wT k ab bR bP bL bN) → va_S A s.heap H locs → lv_has ls 3 [(0, .ref (aa 0)), (1, .ref (ab 0)), (2, .int x2)] → W p l e ({ frames := 1, cells := 0, slots := 0, locals := 21 }) s m args below meth c H locs 0 0 (MQ below (va_Qi (fun (r : Int32) (u : Unit) => post r) (fun u t => va_P D vwCl (wT k aa aR aP aL aN ++ wT k ab bR bP bL bN) t.heap) A) args s 0 0 A) (F0 m 2 ls []) := by
  obtain ⟨hx, hb, hr, hts, hown, hlocks, hml⟩ := id C0
  intro n
  induction n with
  | zero =>
    intro x2 H locs ls hf
    exact False.elim hf
  | succ n ih =>
    intro x2 H locs ls hf hP hD hS hl
    unfold p_X2_hasShapeOf_2 at hf
    refine lv_iload_n hx hb dX2_hasShapeOf_2 rfl (lv_at hl 2 rfl) ?_
    refine lv_bipush (v := 9) hx hb dX2_hasShapeOf_3 (by decide) ?_
    refine lv_icmp_ge (tgt := 30) hx hb dX2_hasShapeOf_5 (by decide) (fun c_1 => ?_) (fun c_1 => ?_)
    · have hf := hf.1 c_1
      refine lv_iconst (v := 1) hx hb dX2_hasShapeOf_30 (by decide) ?_
      exact W.zret (v := 1) hx hb hr rfl (fun t ht hW => ⟨⟨(1 : Int32), (), rfl, hf, xHp ht hP⟩, hS.F ht⟩) hS.2.2 dX2_hasShapeOf_31 hlocks
    · have hf := hf.2 c_1
      refine lv_aload_n hx hb dX2_hasShapeOf_8 rfl (lv_at hl 0 rfl) ?_
      refine va_get (D := D) (ci := 2) (C := RX2) (T := TX2) (N := 4) hx hb hts in_X2_hasShapeOf_X2 hown hG.1 hP 0 rfl rfl 1 (by decide) (hts _ lk_X2_hasShapeOf_16) (fun _ h9 => h9) rfl dX2_hasShapeOf_9 ?_
      refine lv_iload_n hx hb dX2_hasShapeOf_12 rfl (lv_at hl 2 rfl) ?_
      obtain ⟨h_2, hf⟩ := hf
      refine va_iald hx hb hG.1 hP 2 0 rfl rfl h_2 dX2_hasShapeOf_13 ?_
      refine lv_aload_n hx hb dX2_hasShapeOf_14 rfl (lv_at hl 1 rfl) ?_
      refine lv_iload_n hx hb dX2_hasShapeOf_15 rfl (lv_at hl 2 rfl) ?_
      have hp : xPerm (wT k aa aR aP aL aN ++ wT k ab bR bP bL bN) ((wT k ab bR bP bL bN) ++ (wT k aa aR aP aL aN)) := List.perm_append_comm
      refine xCallI (w := wT k ab bR bP bL bN) (r := wT k aa aR aP aL aN) (va_runV (As := [.int x2]) (rest := [.int (aL x2.toNatClampNeg)]) ⟨hx, hb, hml, hown, hts⟩ (c_X2_lengthOf ab bR bP bL bN x2 hf) (cwV 1 hts gX2_hasShapeOf_X2_lengthOf rfl rfl rfl (by decide +kernel) ⟨Nat.le_of_ble_eq_true rfl, Nat.le_of_ble_eq_true rfl⟩) (xPreV hG hP hD hp (ci := 2) rfl (i := 0) rfl) rfl rfl hl.1 rfl (lv_room (Nat.le_of_ble_eq_true rfl)) dX2_hasShapeOf_16 ⟨Nat.zero_le _, Nat.zero_le _⟩) hP hD hS hp (fun _ => wT_adr) (fun r_3 _ H locs hf hP hD hS => ?_)
      have hP : va_P D vwCl (wT k aa aR aP aL aN ++ wT k ab bR bP bL bN) H := xP_perm List.perm_append_comm hP
      have hD : va_D A (wT k aa aR aP aL aN ++ wT k ab bR bP bL bN) := xD_perm List.perm_append_comm hD
      refine lv_icmp_eq (tgt := 24) hx hb dX2_hasShapeOf_19 (by decide) (fun c_4 => ?_) (fun c_4 => ?_)
      · have hf := hf.1 c_4
        refine lv_iinc (v := x2 + 1) (lv' := [(2, .int (x2 + 1)), (0, .ref (aa 0)), (1, .ref (ab 0))]) hx hb dX2_hasShapeOf_24 hl (k := 2) rfl rfl (by decide) rfl (fun ls hl => ?_)
        refine lv_goto (tgt := 2) hx hb dX2_hasShapeOf_27 (by decide) ?_
        exact ih (x2 + 1) _ _ _ hf hP hD hS (lv_sub hl [1, 2, 0] rfl)
      · have hf := hf.2 c_4
        refine lv_iconst (v := 0) hx hb dX2_hasShapeOf_22 (by decide) ?_
        exact W.zret (v := 0) hx hb hr rfl (fun t ht hW => ⟨⟨(0 : Int32), (), rfl, hf, xHp ht hP⟩, hS.F ht⟩) hS.2.2 dX2_hasShapeOf_23 hlocks
set_option maxHeartbeats 4000000 in
set_option maxRecDepth 100000 in
theorem c_X2_hasShapeOf {l : Launch} {D : va_G} {k : Nat → ClassId} (aa : Nat → Nat) (ab : Nat → Nat) (aR : Int32) (aP : Int32) (aL : Nat → Int32) (aN : Nat → Nat → Int32) (bR : Int32) (bP : Int32) (bL : Nat → Int32) (bN : Nat → Nat → Int32) {post : Int32 → Prop} (hf : p_X2_hasShapeOf aL bL post) : ctI l yX2_hasShapeOf wsX2_hasShapeOf ({ frames := 1, cells := 0, slots := 0, locals := 21 }) D k [.ref (aa 0), .ref (ab 0)] (wT k aa aR aP aL aN ++ wT k ab bR bP bL bN) (fun u : Unit => wT k aa aR aP aL aN ++ wT k ab bR bP bL bN) (fun (r : Int32) (u : Unit) => post r) := by
  refine Met.ofW (cc := cX2_hasShapeOf) (maxL := 3) (ret := (some .boolean)) (by decide) rfl ?_
  intro p e s m args below meth c s₁ B hml hv
  obtain ⟨rfl, hP, hG, hD0⟩ := hv
  have C0 : xM p s m ([.ref (aa 0), .ref (ab 0)] : List Value).toArray meth c cX2_hasShapeOf 3 RX2 (some .boolean) wsX2_hasShapeOf := ⟨B.exec, B.bytes, B.returns, atoms_spec (ws := wsX2_hasShapeOf) B.pre, findClass_of_methodNamed B.named, B.notSynchronized, hml⟩
  obtain ⟨hx, hb, hr, hts, hown, hlocks, hml⟩ := id C0
  have hD := xSelf hD0
  have hS : va_S (xIn (wT k aa aR aP aL aN ++ wT k ab bR bP bL bN)) s.heap s.heap [] := va_S.rf
  generalize xIn (wT k aa aR aP aL aN ++ wT k ab bR bP bL bN) = A at hD hS ⊢
  have hl := lv_entry ([.ref (aa 0), .ref (ab 0)]) (n := 3) (Nat.le_of_ble_eq_true rfl)
  rw [lg_entry_eq]
  generalize (lg_sl ([.ref (aa 0), .ref (ab 0)]) ++ List.replicate (3 - (lg_sl ([.ref (aa 0), .ref (ab 0)])).length) Slot.unset).toArray = ls at hl ⊢
  have hl : lv_has ls 3 [(0, .ref (aa 0)), (1, .ref (ab 0))] := hl
  unfold p_X2_hasShapeOf at hf
  refine lv_iconst (v := 0) hx hb dX2_hasShapeOf_0 (by decide) ?_
  refine lv_istore_n (lv' := [(2, .int 0), (0, .ref (aa 0)), (1, .ref (ab 0))]) hx hb dX2_hasShapeOf_1 rfl hl (by decide) rfl (fun ls hl => ?_)
  obtain ⟨n_5, hf⟩ := hf
  exact k_X2_hasShapeOf_2 C0 hG n_5 0 _ _ _ hf hP hD hS (lv_sub hl [1, 2, 0] rfl)

def p_X2_isStaircase_2 (R : Int32) (L : Nat → Int32) (post : Int32 → Prop) : Nat → Int32 → Prop
  | 0, _ => False
  | n + 1, x1 => ((R ≤ x1 → post 1) ∧ (¬ R ≤ x1 → (vp_in x1 9 ∧ (vp_in (x1 - 1) 9 ∧ (((L x1.toNatClampNeg) ≤ (L (x1 - 1).toNatClampNeg) → p_X2_isStaircase_2 R L post n (x1 + 1)) ∧ (¬ (L x1.toNatClampNeg) ≤ (L (x1 - 1).toNatClampNeg) → post 0))))))
def p_X2_isStaircase (R : Int32) (L : Nat → Int32) (post : Int32 → Prop) : Prop := (∃ n_5, p_X2_isStaircase_2 R L post n_5 1)
theorem in_X2_isStaircase_X2 : ∀ w ∈ u_ws RX2 TX2 4, w ∈ wsX2_isStaircase := by decide +kernel
theorem lk_X2_isStaircase_16 : Cond.fieldLink RX2 16 "GrowingCorners$Tableau" "lengths" "[I" ∈ wsX2_isStaircase := by decide +kernel
theorem lk_X2_isStaircase_20 : Cond.fieldLink RX2 20 "GrowingCorners$Tableau" "rows" "I" ∈ wsX2_isStaircase := by decide +kernel
set_option maxHeartbeats 4000000 in
set_option maxRecDepth 100000 in
theorem k_X2_isStaircase_2 {p : Program} {l : Launch} {e : Env} {s : State} {m : MethodId} {args : Array Value} {below : List Frame} {meth : Method} {c : Code} {A : Nat → Prop} {D : va_G} {k : Nat → ClassId} {a : Nat → Nat} {R : Int32} {P : Int32} {L : Nat → Int32} {N : Nat → Nat → Int32} (C0 : xM p s m args meth c cX2_isStaircase 2 RX2 (some .boolean) wsX2_isStaircase) (hG : xG D k s) {post : Int32 → Prop} : ∀ (n : Nat) (x1 : Int32) (H : Heap) (locs : List Loc) (ls : Array Slot), p_X2_isStaircase_2 R L post n x1 → va_P D vwCl (wT k a R P L N) H → va_D A (wT k a R P L N) → va_S A s.heap H locs → lv_has ls 2 [(0, .ref (a 0)), (1, .int x1)] → W p l e ({ frames := 0, cells := 0, slots := 0, locals := 0 }) s m args below meth c H locs 0 0 (MQ below (va_Qi (fun (r : Int32) (u : Unit) => post r) (fun u t => va_P D vwCl (wT k a R P L N) t.heap) A) args s 0 0 A) (F0 m 2 ls []) := by
  obtain ⟨hx, hb, hr, hts, hown, hlocks, hml⟩ := id C0
  intro n
  induction n with
  | zero =>
    intro x1 H locs ls hf
    exact False.elim hf
  | succ n ih =>
    intro x1 H locs ls hf hP hD hS hl
    unfold p_X2_isStaircase_2 at hf
    refine lv_iload_n hx hb dX2_isStaircase_2 rfl (lv_at hl 1 rfl) ?_
    refine lv_aload_n hx hb dX2_isStaircase_3 rfl (lv_at hl 0 rfl) ?_
    refine va_get (D := D) (ci := 2) (C := RX2) (T := TX2) (N := 4) hx hb hts in_X2_isStaircase_X2 hown hG.1 hP 0 rfl rfl 2 (by decide) (hts _ lk_X2_isStaircase_20) (fun _ h9 => h9) rfl dX2_isStaircase_4 ?_
    refine lv_icmp_ge (tgt := 35) hx hb dX2_isStaircase_7 (by decide) (fun c_1 => ?_) (fun c_1 => ?_)
    · have hf := hf.1 c_1
      refine lv_iconst (v := 1) hx hb dX2_isStaircase_35 (by decide) ?_
      exact W.zret (v := 1) hx hb hr rfl (fun t ht hW => ⟨⟨(1 : Int32), (), rfl, hf, xHp ht hP⟩, hS.F ht⟩) hS.2.2 dX2_isStaircase_36 hlocks
    · have hf := hf.2 c_1
      refine lv_aload_n hx hb dX2_isStaircase_10 rfl (lv_at hl 0 rfl) ?_
      refine va_get (D := D) (ci := 2) (C := RX2) (T := TX2) (N := 4) hx hb hts in_X2_isStaircase_X2 hown hG.1 hP 0 rfl rfl 1 (by decide) (hts _ lk_X2_isStaircase_16) (fun _ h9 => h9) rfl dX2_isStaircase_11 ?_
      refine lv_iload_n hx hb dX2_isStaircase_14 rfl (lv_at hl 1 rfl) ?_
      obtain ⟨h_2, hf⟩ := hf
      refine va_iald hx hb hG.1 hP 2 0 rfl rfl h_2 dX2_isStaircase_15 ?_
      refine lv_aload_n hx hb dX2_isStaircase_16 rfl (lv_at hl 0 rfl) ?_
      refine va_get (D := D) (ci := 2) (C := RX2) (T := TX2) (N := 4) hx hb hts in_X2_isStaircase_X2 hown hG.1 hP 0 rfl rfl 1 (by decide) (hts _ lk_X2_isStaircase_16) (fun _ h9 => h9) rfl dX2_isStaircase_17 ?_
      refine lv_iload_n hx hb dX2_isStaircase_20 rfl (lv_at hl 1 rfl) ?_
      refine lv_iconst (v := 1) hx hb dX2_isStaircase_21 (by decide) ?_
      refine lv_isub hx hb dX2_isStaircase_22 ?_
      obtain ⟨h_3, hf⟩ := hf
      refine va_iald hx hb hG.1 hP 2 0 rfl rfl h_3 dX2_isStaircase_23 ?_
      refine lv_icmp_le (tgt := 29) hx hb dX2_isStaircase_24 (by decide) (fun c_4 => ?_) (fun c_4 => ?_)
      · have hf := hf.1 c_4
        refine lv_iinc (v := x1 + 1) (lv' := [(1, .int (x1 + 1)), (0, .ref (a 0))]) hx hb dX2_isStaircase_29 hl (k := 1) rfl rfl (by decide) rfl (fun ls hl => ?_)
        refine lv_goto (tgt := 2) hx hb dX2_isStaircase_32 (by decide) ?_
        exact ih (x1 + 1) _ _ _ hf hP hD hS (lv_sub hl [1, 0] rfl)
      · have hf := hf.2 c_4
        refine lv_iconst (v := 0) hx hb dX2_isStaircase_27 (by decide) ?_
        exact W.zret (v := 0) hx hb hr rfl (fun t ht hW => ⟨⟨(0 : Int32), (), rfl, hf, xHp ht hP⟩, hS.F ht⟩) hS.2.2 dX2_isStaircase_28 hlocks
set_option maxHeartbeats 4000000 in
set_option maxRecDepth 100000 in
theorem c_X2_isStaircase {l : Launch} {D : va_G} {k : Nat → ClassId} (a : Nat → Nat) (R : Int32) (P : Int32) (L : Nat → Int32) (N : Nat → Nat → Int32) {post : Int32 → Prop} (hf : p_X2_isStaircase R L post) : ctI l yX2_isStaircase wsX2_isStaircase ({ frames := 0, cells := 0, slots := 0, locals := 0 }) D k [.ref (a 0)] (wT k a R P L N) (fun u : Unit => wT k a R P L N) (fun (r : Int32) (u : Unit) => post r) := by
  refine Met.ofW (cc := cX2_isStaircase) (maxL := 2) (ret := (some .boolean)) (by decide) rfl ?_
  intro p e s m args below meth c s₁ B hml hv
  obtain ⟨rfl, hP, hG, hD0⟩ := hv
  have C0 : xM p s m ([.ref (a 0)] : List Value).toArray meth c cX2_isStaircase 2 RX2 (some .boolean) wsX2_isStaircase := ⟨B.exec, B.bytes, B.returns, atoms_spec (ws := wsX2_isStaircase) B.pre, findClass_of_methodNamed B.named, B.notSynchronized, hml⟩
  obtain ⟨hx, hb, hr, hts, hown, hlocks, hml⟩ := id C0
  have hD := xSelf hD0
  have hS : va_S (xIn (wT k a R P L N)) s.heap s.heap [] := va_S.rf
  generalize xIn (wT k a R P L N) = A at hD hS ⊢
  have hl := lv_entry ([.ref (a 0)]) (n := 2) (Nat.le_of_ble_eq_true rfl)
  rw [lg_entry_eq]
  generalize (lg_sl ([.ref (a 0)]) ++ List.replicate (2 - (lg_sl ([.ref (a 0)])).length) Slot.unset).toArray = ls at hl ⊢
  have hl : lv_has ls 2 [(0, .ref (a 0))] := hl
  unfold p_X2_isStaircase at hf
  refine lv_iconst (v := 1) hx hb dX2_isStaircase_0 (by decide) ?_
  refine lv_istore_n (lv' := [(1, .int 1), (0, .ref (a 0))]) hx hb dX2_isStaircase_1 rfl hl (by decide) rfl (fun ls hl => ?_)
  obtain ⟨n_5, hf⟩ := hf
  exact k_X2_isStaircase_2 C0 hG n_5 1 _ _ _ hf hP hD hS (lv_sub hl [1, 0] rfl)

def p_X2_rises_76 (R : Int32) (L : Nat → Int32) (N : Nat → Nat → Int32) (x1 : Int32) (post : Int32 → Prop) (k2 : Int32 → Prop) (k12 : Int32 → Int32 → Prop) (x2 : Int32) (x3 : Int32) : Prop := k12 x2 (x3 + 1)
def p_X2_rises_51 (R : Int32) (L : Nat → Int32) (N : Nat → Nat → Int32) (x1 : Int32) (post : Int32 → Prop) (k2 : Int32 → Prop) (k12 : Int32 → Int32 → Prop) (x2 : Int32) (x3 : Int32) : Prop := ((x2 ≤ 0 → p_X2_rises_76 R L N x1 post k2 k12 x2 x3) ∧ (¬ x2 ≤ 0 → (vp_in x2 9 ∧ (vp_in x3 40 ∧ p_X2_at L N (x2 - 1) x3 (fun r_8 => ((r_8 < (N (x2.toNatClampNeg) x3.toNatClampNeg) → p_X2_rises_76 R L N x1 post k2 k12 x2 x3) ∧ (¬ r_8 < (N (x2.toNatClampNeg) x3.toNatClampNeg) → post 0)))))))
def p_X2_rises_12 (R : Int32) (L : Nat → Int32) (N : Nat → Nat → Int32) (x1 : Int32) (post : Int32 → Prop) (k2 : Int32 → Prop) : Nat → Int32 → Int32 → Prop
  | 0, _, _ => False
  | n + 1, x2, x3 => (vp_in x2 9 ∧ (((L x2.toNatClampNeg) ≤ x3 → k2 (x2 + 1)) ∧ (¬ (L x2.toNatClampNeg) ≤ x3 → ((x3 ≤ 0 → p_X2_rises_51 R L N x1 post k2 (fun x2 x3 => p_X2_rises_12 R L N x1 post k2 n x2 x3) x2 x3) ∧ (¬ x3 ≤ 0 → (vp_in x2 9 ∧ (vp_in x3 40 ∧ (vp_in x2 9 ∧ (vp_in (x3 - 1) 40 ∧ ((((N (x2.toNatClampNeg) (x3 - 1).toNatClampNeg) + x1) ≤ (N (x2.toNatClampNeg) x3.toNatClampNeg) → p_X2_rises_51 R L N x1 post k2 (fun x2 x3 => p_X2_rises_12 R L N x1 post k2 n x2 x3) x2 x3) ∧ (¬ ((N (x2.toNatClampNeg) (x3 - 1).toNatClampNeg) + x1) ≤ (N (x2.toNatClampNeg) x3.toNatClampNeg) → post 0)))))))))))
def p_X2_rises_2 (R : Int32) (L : Nat → Int32) (N : Nat → Nat → Int32) (x1 : Int32) (post : Int32 → Prop) : Nat → Int32 → Prop
  | 0, _ => False
  | n + 1, x2 => ((R ≤ x2 → post 1) ∧ (¬ R ≤ x2 → (∃ n_15, p_X2_rises_12 R L N x1 post (fun x2 => p_X2_rises_2 R L N x1 post n x2) n_15 x2 0)))
def p_X2_rises (R : Int32) (L : Nat → Int32) (N : Nat → Nat → Int32) (x1 : Int32) (post : Int32 → Prop) : Prop := (∃ n_16, p_X2_rises_2 R L N x1 post n_16 0)
theorem in_X2_rises_X2 : ∀ w ∈ u_ws RX2 TX2 4, w ∈ wsX2_rises := by decide +kernel
theorem lk_X2_rises_11 : Cond.fieldLink RX2 11 "GrowingCorners$Tableau" "numbers" "[[I" ∈ wsX2_rises := by decide +kernel
theorem lk_X2_rises_16 : Cond.fieldLink RX2 16 "GrowingCorners$Tableau" "lengths" "[I" ∈ wsX2_rises := by decide +kernel
theorem lk_X2_rises_20 : Cond.fieldLink RX2 20 "GrowingCorners$Tableau" "rows" "I" ∈ wsX2_rises := by decide +kernel
set_option maxHeartbeats 4000000 in
set_option maxRecDepth 100000 in
theorem k_X2_rises_76 {p : Program} {l : Launch} {e : Env} {s : State} {m : MethodId} {args : Array Value} {below : List Frame} {meth : Method} {c : Code} {A : Nat → Prop} {D : va_G} {k : Nat → ClassId} {a : Nat → Nat} {R : Int32} {P : Int32} {L : Nat → Int32} {N : Nat → Nat → Int32} {x1 : Int32} (C0 : xM p s m args meth c cX2_rises 4 RX2 (some .boolean) wsX2_rises) (hG : xG D k s) {post : Int32 → Prop} {k2 : Int32 → Prop} (hk2 : ∀ (x2 : Int32) (H : Heap) (locs : List Loc) (ls : Array Slot), k2 x2 → va_P D vwCl (wT k a R P L N) H → va_D A (wT k a R P L N) → va_S A s.heap H locs → lv_has ls 4 [(0, .ref (a 0)), (1, .int x1), (2, .int x2)] → W p l e ({ frames := 3, cells := 0, slots := 0, locals := 65 }) s m args below meth c H locs 0 0 (MQ below (va_Qi (fun (r : Int32) (u : Unit) => post r) (fun u t => va_P D vwCl (wT k a R P L N) t.heap) A) args s 0 0 A) (F0 m 2 ls [])) {k12 : Int32 → Int32 → Prop} (hk12 : ∀ (x2 : Int32) (x3 : Int32) (H : Heap) (locs : List Loc) (ls : Array Slot), k12 x2 x3 → va_P D vwCl (wT k a R P L N) H → va_D A (wT k a R P L N) → va_S A s.heap H locs → lv_has ls 4 [(0, .ref (a 0)), (1, .int x1), (2, .int x2), (3, .int x3)] → W p l e ({ frames := 3, cells := 0, slots := 0, locals := 65 }) s m args below meth c H locs 0 0 (MQ below (va_Qi (fun (r : Int32) (u : Unit) => post r) (fun u t => va_P D vwCl (wT k a R P L N) t.heap) A) args s 0 0 A) (F0 m 12 ls [])) : ∀ (x2 : Int32) (x3 : Int32) (H : Heap) (locs : List Loc) (ls : Array Slot), p_X2_rises_76 R L N x1 post k2 k12 x2 x3 → va_P D vwCl (wT k a R P L N) H → va_D A (wT k a R P L N) → va_S A s.heap H locs → lv_has ls 4 [(0, .ref (a 0)), (1, .int x1), (2, .int x2), (3, .int x3)] → W p l e ({ frames := 3, cells := 0, slots := 0, locals := 65 }) s m args below meth c H locs 0 0 (MQ below (va_Qi (fun (r : Int32) (u : Unit) => post r) (fun u t => va_P D vwCl (wT k a R P L N) t.heap) A) args s 0 0 A) (F0 m 76 ls []) := by
  obtain ⟨hx, hb, hr, hts, hown, hlocks, hml⟩ := id C0
  intro x2 x3 H locs ls hf hP hD hS hl
  unfold p_X2_rises_76 at hf
  refine lv_iinc (v := x3 + 1) (lv' := [(3, .int (x3 + 1)), (0, .ref (a 0)), (1, .int x1), (2, .int x2)]) hx hb dX2_rises_76 hl (k := 3) rfl rfl (by decide) rfl (fun ls hl => ?_)
  refine lv_goto (tgt := 12) hx hb dX2_rises_79 (by decide) ?_
  exact hk12 x2 (x3 + 1) _ _ _ hf hP hD hS (lv_sub hl [1, 2, 3, 0] rfl)
set_option maxHeartbeats 4000000 in
set_option maxRecDepth 100000 in
theorem k_X2_rises_51 {p : Program} {l : Launch} {e : Env} {s : State} {m : MethodId} {args : Array Value} {below : List Frame} {meth : Method} {c : Code} {A : Nat → Prop} {D : va_G} {k : Nat → ClassId} {a : Nat → Nat} {R : Int32} {P : Int32} {L : Nat → Int32} {N : Nat → Nat → Int32} {x1 : Int32} (C0 : xM p s m args meth c cX2_rises 4 RX2 (some .boolean) wsX2_rises) (hG : xG D k s) {post : Int32 → Prop} {k2 : Int32 → Prop} (hk2 : ∀ (x2 : Int32) (H : Heap) (locs : List Loc) (ls : Array Slot), k2 x2 → va_P D vwCl (wT k a R P L N) H → va_D A (wT k a R P L N) → va_S A s.heap H locs → lv_has ls 4 [(0, .ref (a 0)), (1, .int x1), (2, .int x2)] → W p l e ({ frames := 3, cells := 0, slots := 0, locals := 65 }) s m args below meth c H locs 0 0 (MQ below (va_Qi (fun (r : Int32) (u : Unit) => post r) (fun u t => va_P D vwCl (wT k a R P L N) t.heap) A) args s 0 0 A) (F0 m 2 ls [])) {k12 : Int32 → Int32 → Prop} (hk12 : ∀ (x2 : Int32) (x3 : Int32) (H : Heap) (locs : List Loc) (ls : Array Slot), k12 x2 x3 → va_P D vwCl (wT k a R P L N) H → va_D A (wT k a R P L N) → va_S A s.heap H locs → lv_has ls 4 [(0, .ref (a 0)), (1, .int x1), (2, .int x2), (3, .int x3)] → W p l e ({ frames := 3, cells := 0, slots := 0, locals := 65 }) s m args below meth c H locs 0 0 (MQ below (va_Qi (fun (r : Int32) (u : Unit) => post r) (fun u t => va_P D vwCl (wT k a R P L N) t.heap) A) args s 0 0 A) (F0 m 12 ls [])) : ∀ (x2 : Int32) (x3 : Int32) (H : Heap) (locs : List Loc) (ls : Array Slot), p_X2_rises_51 R L N x1 post k2 k12 x2 x3 → va_P D vwCl (wT k a R P L N) H → va_D A (wT k a R P L N) → va_S A s.heap H locs → lv_has ls 4 [(0, .ref (a 0)), (1, .int x1), (2, .int x2), (3, .int x3)] → W p l e ({ frames := 3, cells := 0, slots := 0, locals := 65 }) s m args below meth c H locs 0 0 (MQ below (va_Qi (fun (r : Int32) (u : Unit) => post r) (fun u t => va_P D vwCl (wT k a R P L N) t.heap) A) args s 0 0 A) (F0 m 51 ls []) := by
  obtain ⟨hx, hb, hr, hts, hown, hlocks, hml⟩ := id C0
  intro x2 x3 H locs ls hf hP hD hS hl
  unfold p_X2_rises_51 at hf
  refine lv_iload_n hx hb dX2_rises_51 rfl (lv_at hl 2 rfl) ?_
  refine lv_if_le (tgt := 76) hx hb dX2_rises_52 (by decide) (fun c_5 => ?_) (fun c_5 => ?_)
  · have hf := hf.1 c_5
    exact k_X2_rises_76 C0 hG hk2 hk12 x2 x3 _ _ _ hf hP hD hS (lv_sub hl [0, 1, 2, 3] rfl)
  · have hf := hf.2 c_5
    refine lv_aload_n hx hb dX2_rises_55 rfl (lv_at hl 0 rfl) ?_
    refine va_get (D := D) (ci := 2) (C := RX2) (T := TX2) (N := 4) hx hb hts in_X2_rises_X2 hown hG.1 hP 0 rfl rfl 0 (by decide) (hts _ lk_X2_rises_11) (fun _ h9 => h9) rfl dX2_rises_56 ?_
    refine lv_iload_n hx hb dX2_rises_59 rfl (lv_at hl 2 rfl) ?_
    obtain ⟨h_6, hf⟩ := hf
    refine xAald (f := fun i => a (i + 3)) hx hb hG.1 hP 1 3 rfl rfl h_6 dX2_rises_60 ?_
    refine lv_iload_n hx hb dX2_rises_61 rfl (lv_at hl 3 rfl) ?_
    obtain ⟨h_7, hf⟩ := hf
    refine va_iald hx hb hG.1 hP (x2.toNatClampNeg + 3) 0 (wT_row (vp_lt h_6)) rfl h_7 dX2_rises_62 ?_
    refine lv_aload_n hx hb dX2_rises_63 rfl (lv_at hl 0 rfl) ?_
    refine lv_iload_n hx hb dX2_rises_64 rfl (lv_at hl 2 rfl) ?_
    refine lv_iconst (v := 1) hx hb dX2_rises_65 (by decide) ?_
    refine lv_isub hx hb dX2_rises_66 ?_
    refine lv_iload_n hx hb dX2_rises_67 rfl (lv_at hl 3 rfl) ?_
    have hp : xPerm (wT k a R P L N) ((wT k a R P L N) ++ ([])) := xPermNil
    refine xCallI (w := wT k a R P L N) (r := []) (va_runV (As := [.int (x2 - 1), .int x3]) (rest := [.int (N (x2.toNatClampNeg) x3.toNatClampNeg)]) ⟨hx, hb, hml, hown, hts⟩ (c_X2_at a R P L N (x2 - 1) x3 hf) (cwV 2 hts gX2_rises_X2_at rfl rfl rfl (by decide +kernel) ⟨Nat.le_of_ble_eq_true rfl, Nat.le_of_ble_eq_true rfl⟩) (xPreV hG hP hD hp (ci := 2) rfl (i := 0) rfl) rfl rfl hl.1 rfl (lv_room (Nat.le_of_ble_eq_true rfl)) dX2_rises_68 ⟨Nat.zero_le _, Nat.zero_le _⟩) hP hD hS hp (fun _ => wT_adr) (fun r_8 _ H locs hf hP hD hS => ?_)
    have hP : va_P D vwCl (wT k a R P L N) H := xNilP hP
    have hD : va_D A (wT k a R P L N) := xNilD hD
    refine lv_icmp_gt (tgt := 76) hx hb dX2_rises_71 (by decide) (fun c_9 => ?_) (fun c_9 => ?_)
    · have hf := hf.1 c_9
      exact k_X2_rises_76 C0 hG hk2 hk12 x2 x3 _ _ _ hf hP hD hS (lv_sub hl [0, 1, 2, 3] rfl)
    · have hf := hf.2 c_9
      refine lv_iconst (v := 0) hx hb dX2_rises_74 (by decide) ?_
      exact W.zret (v := 0) hx hb hr rfl (fun t ht hW => ⟨⟨(0 : Int32), (), rfl, hf, xHp ht hP⟩, hS.F ht⟩) hS.2.2 dX2_rises_75 hlocks
set_option maxHeartbeats 4000000 in
set_option maxRecDepth 100000 in
theorem k_X2_rises_12 {p : Program} {l : Launch} {e : Env} {s : State} {m : MethodId} {args : Array Value} {below : List Frame} {meth : Method} {c : Code} {A : Nat → Prop} {D : va_G} {k : Nat → ClassId} {a : Nat → Nat} {R : Int32} {P : Int32} {L : Nat → Int32} {N : Nat → Nat → Int32} {x1 : Int32} (C0 : xM p s m args meth c cX2_rises 4 RX2 (some .boolean) wsX2_rises) (hG : xG D k s) {post : Int32 → Prop} {k2 : Int32 → Prop} (hk2 : ∀ (x2 : Int32) (H : Heap) (locs : List Loc) (ls : Array Slot), k2 x2 → va_P D vwCl (wT k a R P L N) H → va_D A (wT k a R P L N) → va_S A s.heap H locs → lv_has ls 4 [(0, .ref (a 0)), (1, .int x1), (2, .int x2)] → W p l e ({ frames := 3, cells := 0, slots := 0, locals := 65 }) s m args below meth c H locs 0 0 (MQ below (va_Qi (fun (r : Int32) (u : Unit) => post r) (fun u t => va_P D vwCl (wT k a R P L N) t.heap) A) args s 0 0 A) (F0 m 2 ls [])) : ∀ (n : Nat) (x2 : Int32) (x3 : Int32) (H : Heap) (locs : List Loc) (ls : Array Slot), p_X2_rises_12 R L N x1 post k2 n x2 x3 → va_P D vwCl (wT k a R P L N) H → va_D A (wT k a R P L N) → va_S A s.heap H locs → lv_has ls 4 [(0, .ref (a 0)), (1, .int x1), (2, .int x2), (3, .int x3)] → W p l e ({ frames := 3, cells := 0, slots := 0, locals := 65 }) s m args below meth c H locs 0 0 (MQ below (va_Qi (fun (r : Int32) (u : Unit) => post r) (fun u t => va_P D vwCl (wT k a R P L N) t.heap) A) args s 0 0 A) (F0 m 12 ls []) := by
  obtain ⟨hx, hb, hr, hts, hown, hlocks, hml⟩ := id C0
  intro n
  induction n with
  | zero =>
    intro x2 x3 H locs ls hf
    exact False.elim hf
  | succ n ih =>
    intro x2 x3 H locs ls hf hP hD hS hl
    unfold p_X2_rises_12 at hf
    refine lv_iload_n hx hb dX2_rises_12 rfl (lv_at hl 3 rfl) ?_
    refine lv_aload_n hx hb dX2_rises_13 rfl (lv_at hl 0 rfl) ?_
    refine va_get (D := D) (ci := 2) (C := RX2) (T := TX2) (N := 4) hx hb hts in_X2_rises_X2 hown hG.1 hP 0 rfl rfl 1 (by decide) (hts _ lk_X2_rises_16) (fun _ h9 => h9) rfl dX2_rises_14 ?_
    refine lv_iload_n hx hb dX2_rises_17 rfl (lv_at hl 2 rfl) ?_
    obtain ⟨h_2, hf⟩ := hf
    refine va_iald hx hb hG.1 hP 2 0 rfl rfl h_2 dX2_rises_18 ?_
    refine lv_icmp_ge (tgt := 82) hx hb dX2_rises_19 (by decide) (fun c_3 => ?_) (fun c_3 => ?_)
    · have hf := hf.1 c_3
      refine lv_iinc (v := x2 + 1) (lv' := [(2, .int (x2 + 1)), (0, .ref (a 0)), (1, .int x1), (3, .int x3)]) hx hb dX2_rises_82 hl (k := 2) rfl rfl (by decide) rfl (fun ls hl => ?_)
      refine lv_goto (tgt := 2) hx hb dX2_rises_85 (by decide) ?_
      exact hk2 (x2 + 1) _ _ _ hf hP hD hS (lv_sub hl [1, 2, 0] rfl)
    · have hf := hf.2 c_3
      refine lv_iload_n hx hb dX2_rises_22 rfl (lv_at hl 3 rfl) ?_
      refine lv_if_le (tgt := 51) hx hb dX2_rises_23 (by decide) (fun c_4 => ?_) (fun c_4 => ?_)
      · have hf := hf.1 c_4
        exact k_X2_rises_51 C0 hG hk2 ih x2 x3 _ _ _ hf hP hD hS (lv_sub hl [0, 1, 2, 3] rfl)
      · have hf := hf.2 c_4
        refine lv_aload_n hx hb dX2_rises_26 rfl (lv_at hl 0 rfl) ?_
        refine va_get (D := D) (ci := 2) (C := RX2) (T := TX2) (N := 4) hx hb hts in_X2_rises_X2 hown hG.1 hP 0 rfl rfl 0 (by decide) (hts _ lk_X2_rises_11) (fun _ h9 => h9) rfl dX2_rises_27 ?_
        refine lv_iload_n hx hb dX2_rises_30 rfl (lv_at hl 2 rfl) ?_
        obtain ⟨h_10, hf⟩ := hf
        refine xAald (f := fun i => a (i + 3)) hx hb hG.1 hP 1 3 rfl rfl h_10 dX2_rises_31 ?_
        refine lv_iload_n hx hb dX2_rises_32 rfl (lv_at hl 3 rfl) ?_
        obtain ⟨h_11, hf⟩ := hf
        refine va_iald hx hb hG.1 hP (x2.toNatClampNeg + 3) 0 (wT_row (vp_lt h_10)) rfl h_11 dX2_rises_33 ?_
        refine lv_aload_n hx hb dX2_rises_34 rfl (lv_at hl 0 rfl) ?_
        refine va_get (D := D) (ci := 2) (C := RX2) (T := TX2) (N := 4) hx hb hts in_X2_rises_X2 hown hG.1 hP 0 rfl rfl 0 (by decide) (hts _ lk_X2_rises_11) (fun _ h9 => h9) rfl dX2_rises_35 ?_
        refine lv_iload_n hx hb dX2_rises_38 rfl (lv_at hl 2 rfl) ?_
        obtain ⟨h_12, hf⟩ := hf
        refine xAald (f := fun i => a (i + 3)) hx hb hG.1 hP 1 3 rfl rfl h_12 dX2_rises_39 ?_
        refine lv_iload_n hx hb dX2_rises_40 rfl (lv_at hl 3 rfl) ?_
        refine lv_iconst (v := 1) hx hb dX2_rises_41 (by decide) ?_
        refine lv_isub hx hb dX2_rises_42 ?_
        obtain ⟨h_13, hf⟩ := hf
        refine va_iald hx hb hG.1 hP (x2.toNatClampNeg + 3) 0 (wT_row (vp_lt h_12)) rfl h_13 dX2_rises_43 ?_
        refine lv_iload_n hx hb dX2_rises_44 rfl (lv_at hl 1 rfl) ?_
        refine lv_iadd hx hb dX2_rises_45 ?_
        refine lv_icmp_ge (tgt := 51) hx hb dX2_rises_46 (by decide) (fun c_14 => ?_) (fun c_14 => ?_)
        · have hf := hf.1 c_14
          exact k_X2_rises_51 C0 hG hk2 ih x2 x3 _ _ _ hf hP hD hS (lv_sub hl [0, 1, 2, 3] rfl)
        · have hf := hf.2 c_14
          refine lv_iconst (v := 0) hx hb dX2_rises_49 (by decide) ?_
          exact W.zret (v := 0) hx hb hr rfl (fun t ht hW => ⟨⟨(0 : Int32), (), rfl, hf, xHp ht hP⟩, hS.F ht⟩) hS.2.2 dX2_rises_50 hlocks
set_option maxHeartbeats 4000000 in
set_option maxRecDepth 100000 in
theorem k_X2_rises_2 {p : Program} {l : Launch} {e : Env} {s : State} {m : MethodId} {args : Array Value} {below : List Frame} {meth : Method} {c : Code} {A : Nat → Prop} {D : va_G} {k : Nat → ClassId} {a : Nat → Nat} {R : Int32} {P : Int32} {L : Nat → Int32} {N : Nat → Nat → Int32} {x1 : Int32} (C0 : xM p s m args meth c cX2_rises 4 RX2 (some .boolean) wsX2_rises) (hG : xG D k s) {post : Int32 → Prop} : ∀ (n : Nat) (x2 : Int32) (H : Heap) (locs : List Loc) (ls : Array Slot), p_X2_rises_2 R L N x1 post n x2 → va_P D vwCl (wT k a R P L N) H → va_D A (wT k a R P L N) → va_S A s.heap H locs → lv_has ls 4 [(0, .ref (a 0)), (1, .int x1), (2, .int x2)] → W p l e ({ frames := 3, cells := 0, slots := 0, locals := 65 }) s m args below meth c H locs 0 0 (MQ below (va_Qi (fun (r : Int32) (u : Unit) => post r) (fun u t => va_P D vwCl (wT k a R P L N) t.heap) A) args s 0 0 A) (F0 m 2 ls []) := by
  obtain ⟨hx, hb, hr, hts, hown, hlocks, hml⟩ := id C0
  intro n
  induction n with
  | zero =>
    intro x2 H locs ls hf
    exact False.elim hf
  | succ n ih =>
    intro x2 H locs ls hf hP hD hS hl
    unfold p_X2_rises_2 at hf
    refine lv_iload_n hx hb dX2_rises_2 rfl (lv_at hl 2 rfl) ?_
    refine lv_aload_n hx hb dX2_rises_3 rfl (lv_at hl 0 rfl) ?_
    refine va_get (D := D) (ci := 2) (C := RX2) (T := TX2) (N := 4) hx hb hts in_X2_rises_X2 hown hG.1 hP 0 rfl rfl 2 (by decide) (hts _ lk_X2_rises_20) (fun _ h9 => h9) rfl dX2_rises_4 ?_
    refine lv_icmp_ge (tgt := 88) hx hb dX2_rises_7 (by decide) (fun c_1 => ?_) (fun c_1 => ?_)
    · have hf := hf.1 c_1
      refine lv_iconst (v := 1) hx hb dX2_rises_88 (by decide) ?_
      exact W.zret (v := 1) hx hb hr rfl (fun t ht hW => ⟨⟨(1 : Int32), (), rfl, hf, xHp ht hP⟩, hS.F ht⟩) hS.2.2 dX2_rises_89 hlocks
    · have hf := hf.2 c_1
      refine lv_iconst (v := 0) hx hb dX2_rises_10 (by decide) ?_
      refine lv_istore_n (lv' := [(3, .int 0), (0, .ref (a 0)), (1, .int x1), (2, .int x2)]) hx hb dX2_rises_11 rfl hl (by decide) rfl (fun ls hl => ?_)
      obtain ⟨n_15, hf⟩ := hf
      exact k_X2_rises_12 C0 hG ih n_15 x2 0 _ _ _ hf hP hD hS (lv_sub hl [1, 2, 3, 0] rfl)
set_option maxHeartbeats 4000000 in
set_option maxRecDepth 100000 in
theorem c_X2_rises {l : Launch} {D : va_G} {k : Nat → ClassId} (a : Nat → Nat) (R : Int32) (P : Int32) (L : Nat → Int32) (N : Nat → Nat → Int32) (x1 : Int32) {post : Int32 → Prop} (hf : p_X2_rises R L N x1 post) : ctI l yX2_rises wsX2_rises ({ frames := 3, cells := 0, slots := 0, locals := 65 }) D k [.ref (a 0), .int x1] (wT k a R P L N) (fun u : Unit => wT k a R P L N) (fun (r : Int32) (u : Unit) => post r) := by
  refine Met.ofW (cc := cX2_rises) (maxL := 4) (ret := (some .boolean)) (by decide) rfl ?_
  intro p e s m args below meth c s₁ B hml hv
  obtain ⟨rfl, hP, hG, hD0⟩ := hv
  have C0 : xM p s m ([.ref (a 0), .int x1] : List Value).toArray meth c cX2_rises 4 RX2 (some .boolean) wsX2_rises := ⟨B.exec, B.bytes, B.returns, atoms_spec (ws := wsX2_rises) B.pre, findClass_of_methodNamed B.named, B.notSynchronized, hml⟩
  obtain ⟨hx, hb, hr, hts, hown, hlocks, hml⟩ := id C0
  have hD := xSelf hD0
  have hS : va_S (xIn (wT k a R P L N)) s.heap s.heap [] := va_S.rf
  generalize xIn (wT k a R P L N) = A at hD hS ⊢
  have hl := lv_entry ([.ref (a 0), .int x1]) (n := 4) (Nat.le_of_ble_eq_true rfl)
  rw [lg_entry_eq]
  generalize (lg_sl ([.ref (a 0), .int x1]) ++ List.replicate (4 - (lg_sl ([.ref (a 0), .int x1])).length) Slot.unset).toArray = ls at hl ⊢
  have hl : lv_has ls 4 [(0, .ref (a 0)), (1, .int x1)] := hl
  unfold p_X2_rises at hf
  refine lv_iconst (v := 0) hx hb dX2_rises_0 (by decide) ?_
  refine lv_istore_n (lv' := [(2, .int 0), (0, .ref (a 0)), (1, .int x1)]) hx hb dX2_rises_1 rfl hl (by decide) rfl (fun ls hl => ?_)
  obtain ⟨n_16, hf⟩ := hf
  exact k_X2_rises_2 C0 hG n_16 0 _ _ _ hf hP hD hS (lv_sub hl [1, 2, 0] rfl)

def p_X2_isBelow_12 (R : Int32) (L : Nat → Int32) (N : Nat → Nat → Int32) (x1 : Int32) (post : Int32 → Prop) (k2 : Int32 → Prop) : Nat → Int32 → Int32 → Prop
  | 0, _, _ => False
  | n + 1, x2, x3 => (vp_in x2 9 ∧ (((L x2.toNatClampNeg) ≤ x3 → k2 (x2 + 1)) ∧ (¬ (L x2.toNatClampNeg) ≤ x3 → (vp_in x2 9 ∧ (vp_in x3 40 ∧ (((N (x2.toNatClampNeg) x3.toNatClampNeg) < x1 → p_X2_isBelow_12 R L N x1 post k2 n x2 (x3 + 1)) ∧ (¬ (N (x2.toNatClampNeg) x3.toNatClampNeg) < x1 → post 0)))))))
def p_X2_isBelow_2 (R : Int32) (L : Nat → Int32) (N : Nat → Nat → Int32) (x1 : Int32) (post : Int32 → Prop) : Nat → Int32 → Prop
  | 0, _ => False
  | n + 1, x2 => ((R ≤ x2 → post 1) ∧ (¬ R ≤ x2 → (∃ n_7, p_X2_isBelow_12 R L N x1 post (fun x2 => p_X2_isBelow_2 R L N x1 post n x2) n_7 x2 0)))
def p_X2_isBelow (R : Int32) (L : Nat → Int32) (N : Nat → Nat → Int32) (x1 : Int32) (post : Int32 → Prop) : Prop := (∃ n_8, p_X2_isBelow_2 R L N x1 post n_8 0)
theorem in_X2_isBelow_X2 : ∀ w ∈ u_ws RX2 TX2 4, w ∈ wsX2_isBelow := by decide +kernel
theorem lk_X2_isBelow_11 : Cond.fieldLink RX2 11 "GrowingCorners$Tableau" "numbers" "[[I" ∈ wsX2_isBelow := by decide +kernel
theorem lk_X2_isBelow_16 : Cond.fieldLink RX2 16 "GrowingCorners$Tableau" "lengths" "[I" ∈ wsX2_isBelow := by decide +kernel
theorem lk_X2_isBelow_20 : Cond.fieldLink RX2 20 "GrowingCorners$Tableau" "rows" "I" ∈ wsX2_isBelow := by decide +kernel
set_option maxHeartbeats 4000000 in
set_option maxRecDepth 100000 in
theorem k_X2_isBelow_12 {p : Program} {l : Launch} {e : Env} {s : State} {m : MethodId} {args : Array Value} {below : List Frame} {meth : Method} {c : Code} {A : Nat → Prop} {D : va_G} {k : Nat → ClassId} {a : Nat → Nat} {R : Int32} {P : Int32} {L : Nat → Int32} {N : Nat → Nat → Int32} {x1 : Int32} (C0 : xM p s m args meth c cX2_isBelow 4 RX2 (some .boolean) wsX2_isBelow) (hG : xG D k s) {post : Int32 → Prop} {k2 : Int32 → Prop} (hk2 : ∀ (x2 : Int32) (H : Heap) (locs : List Loc) (ls : Array Slot), k2 x2 → va_P D vwCl (wT k a R P L N) H → va_D A (wT k a R P L N) → va_S A s.heap H locs → lv_has ls 4 [(0, .ref (a 0)), (1, .int x1), (2, .int x2)] → W p l e ({ frames := 0, cells := 0, slots := 0, locals := 0 }) s m args below meth c H locs 0 0 (MQ below (va_Qi (fun (r : Int32) (u : Unit) => post r) (fun u t => va_P D vwCl (wT k a R P L N) t.heap) A) args s 0 0 A) (F0 m 2 ls [])) : ∀ (n : Nat) (x2 : Int32) (x3 : Int32) (H : Heap) (locs : List Loc) (ls : Array Slot), p_X2_isBelow_12 R L N x1 post k2 n x2 x3 → va_P D vwCl (wT k a R P L N) H → va_D A (wT k a R P L N) → va_S A s.heap H locs → lv_has ls 4 [(0, .ref (a 0)), (1, .int x1), (2, .int x2), (3, .int x3)] → W p l e ({ frames := 0, cells := 0, slots := 0, locals := 0 }) s m args below meth c H locs 0 0 (MQ below (va_Qi (fun (r : Int32) (u : Unit) => post r) (fun u t => va_P D vwCl (wT k a R P L N) t.heap) A) args s 0 0 A) (F0 m 12 ls []) := by
  obtain ⟨hx, hb, hr, hts, hown, hlocks, hml⟩ := id C0
  intro n
  induction n with
  | zero =>
    intro x2 x3 H locs ls hf
    exact False.elim hf
  | succ n ih =>
    intro x2 x3 H locs ls hf hP hD hS hl
    unfold p_X2_isBelow_12 at hf
    refine lv_iload_n hx hb dX2_isBelow_12 rfl (lv_at hl 3 rfl) ?_
    refine lv_aload_n hx hb dX2_isBelow_13 rfl (lv_at hl 0 rfl) ?_
    refine va_get (D := D) (ci := 2) (C := RX2) (T := TX2) (N := 4) hx hb hts in_X2_isBelow_X2 hown hG.1 hP 0 rfl rfl 1 (by decide) (hts _ lk_X2_isBelow_16) (fun _ h9 => h9) rfl dX2_isBelow_14 ?_
    refine lv_iload_n hx hb dX2_isBelow_17 rfl (lv_at hl 2 rfl) ?_
    obtain ⟨h_2, hf⟩ := hf
    refine va_iald hx hb hG.1 hP 2 0 rfl rfl h_2 dX2_isBelow_18 ?_
    refine lv_icmp_ge (tgt := 42) hx hb dX2_isBelow_19 (by decide) (fun c_3 => ?_) (fun c_3 => ?_)
    · have hf := hf.1 c_3
      refine lv_iinc (v := x2 + 1) (lv' := [(2, .int (x2 + 1)), (0, .ref (a 0)), (1, .int x1), (3, .int x3)]) hx hb dX2_isBelow_42 hl (k := 2) rfl rfl (by decide) rfl (fun ls hl => ?_)
      refine lv_goto (tgt := 2) hx hb dX2_isBelow_45 (by decide) ?_
      exact hk2 (x2 + 1) _ _ _ hf hP hD hS (lv_sub hl [1, 2, 0] rfl)
    · have hf := hf.2 c_3
      refine lv_aload_n hx hb dX2_isBelow_22 rfl (lv_at hl 0 rfl) ?_
      refine va_get (D := D) (ci := 2) (C := RX2) (T := TX2) (N := 4) hx hb hts in_X2_isBelow_X2 hown hG.1 hP 0 rfl rfl 0 (by decide) (hts _ lk_X2_isBelow_11) (fun _ h9 => h9) rfl dX2_isBelow_23 ?_
      refine lv_iload_n hx hb dX2_isBelow_26 rfl (lv_at hl 2 rfl) ?_
      obtain ⟨h_4, hf⟩ := hf
      refine xAald (f := fun i => a (i + 3)) hx hb hG.1 hP 1 3 rfl rfl h_4 dX2_isBelow_27 ?_
      refine lv_iload_n hx hb dX2_isBelow_28 rfl (lv_at hl 3 rfl) ?_
      obtain ⟨h_5, hf⟩ := hf
      refine va_iald hx hb hG.1 hP (x2.toNatClampNeg + 3) 0 (wT_row (vp_lt h_4)) rfl h_5 dX2_isBelow_29 ?_
      refine lv_iload_n hx hb dX2_isBelow_30 rfl (lv_at hl 1 rfl) ?_
      refine lv_icmp_lt (tgt := 36) hx hb dX2_isBelow_31 (by decide) (fun c_6 => ?_) (fun c_6 => ?_)
      · have hf := hf.1 c_6
        refine lv_iinc (v := x3 + 1) (lv' := [(3, .int (x3 + 1)), (0, .ref (a 0)), (1, .int x1), (2, .int x2)]) hx hb dX2_isBelow_36 hl (k := 3) rfl rfl (by decide) rfl (fun ls hl => ?_)
        refine lv_goto (tgt := 12) hx hb dX2_isBelow_39 (by decide) ?_
        exact ih x2 (x3 + 1) _ _ _ hf hP hD hS (lv_sub hl [1, 2, 3, 0] rfl)
      · have hf := hf.2 c_6
        refine lv_iconst (v := 0) hx hb dX2_isBelow_34 (by decide) ?_
        exact W.zret (v := 0) hx hb hr rfl (fun t ht hW => ⟨⟨(0 : Int32), (), rfl, hf, xHp ht hP⟩, hS.F ht⟩) hS.2.2 dX2_isBelow_35 hlocks
set_option maxHeartbeats 4000000 in
set_option maxRecDepth 100000 in
theorem k_X2_isBelow_2 {p : Program} {l : Launch} {e : Env} {s : State} {m : MethodId} {args : Array Value} {below : List Frame} {meth : Method} {c : Code} {A : Nat → Prop} {D : va_G} {k : Nat → ClassId} {a : Nat → Nat} {R : Int32} {P : Int32} {L : Nat → Int32} {N : Nat → Nat → Int32} {x1 : Int32} (C0 : xM p s m args meth c cX2_isBelow 4 RX2 (some .boolean) wsX2_isBelow) (hG : xG D k s) {post : Int32 → Prop} : ∀ (n : Nat) (x2 : Int32) (H : Heap) (locs : List Loc) (ls : Array Slot), p_X2_isBelow_2 R L N x1 post n x2 → va_P D vwCl (wT k a R P L N) H → va_D A (wT k a R P L N) → va_S A s.heap H locs → lv_has ls 4 [(0, .ref (a 0)), (1, .int x1), (2, .int x2)] → W p l e ({ frames := 0, cells := 0, slots := 0, locals := 0 }) s m args below meth c H locs 0 0 (MQ below (va_Qi (fun (r : Int32) (u : Unit) => post r) (fun u t => va_P D vwCl (wT k a R P L N) t.heap) A) args s 0 0 A) (F0 m 2 ls []) := by
  obtain ⟨hx, hb, hr, hts, hown, hlocks, hml⟩ := id C0
  intro n
  induction n with
  | zero =>
    intro x2 H locs ls hf
    exact False.elim hf
  | succ n ih =>
    intro x2 H locs ls hf hP hD hS hl
    unfold p_X2_isBelow_2 at hf
    refine lv_iload_n hx hb dX2_isBelow_2 rfl (lv_at hl 2 rfl) ?_
    refine lv_aload_n hx hb dX2_isBelow_3 rfl (lv_at hl 0 rfl) ?_
    refine va_get (D := D) (ci := 2) (C := RX2) (T := TX2) (N := 4) hx hb hts in_X2_isBelow_X2 hown hG.1 hP 0 rfl rfl 2 (by decide) (hts _ lk_X2_isBelow_20) (fun _ h9 => h9) rfl dX2_isBelow_4 ?_
    refine lv_icmp_ge (tgt := 48) hx hb dX2_isBelow_7 (by decide) (fun c_1 => ?_) (fun c_1 => ?_)
    · have hf := hf.1 c_1
      refine lv_iconst (v := 1) hx hb dX2_isBelow_48 (by decide) ?_
      exact W.zret (v := 1) hx hb hr rfl (fun t ht hW => ⟨⟨(1 : Int32), (), rfl, hf, xHp ht hP⟩, hS.F ht⟩) hS.2.2 dX2_isBelow_49 hlocks
    · have hf := hf.2 c_1
      refine lv_iconst (v := 0) hx hb dX2_isBelow_10 (by decide) ?_
      refine lv_istore_n (lv' := [(3, .int 0), (0, .ref (a 0)), (1, .int x1), (2, .int x2)]) hx hb dX2_isBelow_11 rfl hl (by decide) rfl (fun ls hl => ?_)
      obtain ⟨n_7, hf⟩ := hf
      exact k_X2_isBelow_12 C0 hG ih n_7 x2 0 _ _ _ hf hP hD hS (lv_sub hl [1, 2, 3, 0] rfl)
set_option maxHeartbeats 4000000 in
set_option maxRecDepth 100000 in
theorem c_X2_isBelow {l : Launch} {D : va_G} {k : Nat → ClassId} (a : Nat → Nat) (R : Int32) (P : Int32) (L : Nat → Int32) (N : Nat → Nat → Int32) (x1 : Int32) {post : Int32 → Prop} (hf : p_X2_isBelow R L N x1 post) : ctI l yX2_isBelow wsX2_isBelow ({ frames := 0, cells := 0, slots := 0, locals := 0 }) D k [.ref (a 0), .int x1] (wT k a R P L N) (fun u : Unit => wT k a R P L N) (fun (r : Int32) (u : Unit) => post r) := by
  refine Met.ofW (cc := cX2_isBelow) (maxL := 4) (ret := (some .boolean)) (by decide) rfl ?_
  intro p e s m args below meth c s₁ B hml hv
  obtain ⟨rfl, hP, hG, hD0⟩ := hv
  have C0 : xM p s m ([.ref (a 0), .int x1] : List Value).toArray meth c cX2_isBelow 4 RX2 (some .boolean) wsX2_isBelow := ⟨B.exec, B.bytes, B.returns, atoms_spec (ws := wsX2_isBelow) B.pre, findClass_of_methodNamed B.named, B.notSynchronized, hml⟩
  obtain ⟨hx, hb, hr, hts, hown, hlocks, hml⟩ := id C0
  have hD := xSelf hD0
  have hS : va_S (xIn (wT k a R P L N)) s.heap s.heap [] := va_S.rf
  generalize xIn (wT k a R P L N) = A at hD hS ⊢
  have hl := lv_entry ([.ref (a 0), .int x1]) (n := 4) (Nat.le_of_ble_eq_true rfl)
  rw [lg_entry_eq]
  generalize (lg_sl ([.ref (a 0), .int x1]) ++ List.replicate (4 - (lg_sl ([.ref (a 0), .int x1])).length) Slot.unset).toArray = ls at hl ⊢
  have hl : lv_has ls 4 [(0, .ref (a 0)), (1, .int x1)] := hl
  unfold p_X2_isBelow at hf
  refine lv_iconst (v := 0) hx hb dX2_isBelow_0 (by decide) ?_
  refine lv_istore_n (lv' := [(2, .int 0), (0, .ref (a 0)), (1, .int x1)]) hx hb dX2_isBelow_1 rfl hl (by decide) rfl (fun ls hl => ?_)
  obtain ⟨n_8, hf⟩ := hf
  exact k_X2_isBelow_2 C0 hG n_8 0 _ _ _ hf hP hD hS (lv_sub hl [1, 2, 0] rfl)

def p_X2_hasEachOnce_15 (R : Int32) (P : Int32) (L : Nat → Int32) (N : Nat → Nat → Int32) (post : Int32 → Prop) (k4 : Int64 → Int32 → Prop) : Nat → Int64 → Int32 → Int32 → Prop
  | 0, _, _, _ => False
  | n + 1, x1, x3, x4 => (vp_in x3 9 ∧ (((L x3.toNatClampNeg) ≤ x4 → k4 x1 (x3 + 1)) ∧ (¬ (L x3.toNatClampNeg) ≤ x4 → (vp_in x3 9 ∧ (vp_in x4 40 ∧ p_X2_hasEachOnce_15 R P L N post k4 n (x1 ||| ((1 : Int64) <<< (((N (x3.toNatClampNeg) x4.toNatClampNeg) - 1).toInt64 &&& 63))) x3 (x4 + 1))))))
def p_X2_hasEachOnce_4 (R : Int32) (P : Int32) (L : Nat → Int32) (N : Nat → Nat → Int32) (post : Int32 → Prop) : Nat → Int64 → Int32 → Prop
  | 0, _, _ => False
  | n + 1, x1, x3 => ((R ≤ x3 → (((lg_cmp x1 (((1 : Int64) <<< (P.toInt64 &&& 63)) - 1)) = 0 → post 1) ∧ (¬ (lg_cmp x1 (((1 : Int64) <<< (P.toInt64 &&& 63)) - 1)) = 0 → post 0))) ∧ (¬ R ≤ x3 → (∃ n_7, p_X2_hasEachOnce_15 R P L N post (fun x1 x3 => p_X2_hasEachOnce_4 R P L N post n x1 x3) n_7 x1 x3 0)))
def p_X2_hasEachOnce (R : Int32) (P : Int32) (L : Nat → Int32) (N : Nat → Nat → Int32) (post : Int32 → Prop) : Prop := (∃ n_8, p_X2_hasEachOnce_4 R P L N post n_8 0 0)
theorem in_X2_hasEachOnce_X2 : ∀ w ∈ u_ws RX2 TX2 4, w ∈ wsX2_hasEachOnce := by decide +kernel
theorem lk_X2_hasEachOnce_11 : Cond.fieldLink RX2 11 "GrowingCorners$Tableau" "numbers" "[[I" ∈ wsX2_hasEachOnce := by decide +kernel
theorem lk_X2_hasEachOnce_16 : Cond.fieldLink RX2 16 "GrowingCorners$Tableau" "lengths" "[I" ∈ wsX2_hasEachOnce := by decide +kernel
theorem lk_X2_hasEachOnce_20 : Cond.fieldLink RX2 20 "GrowingCorners$Tableau" "rows" "I" ∈ wsX2_hasEachOnce := by decide +kernel
theorem lk_X2_hasEachOnce_24 : Cond.fieldLink RX2 24 "GrowingCorners$Tableau" "places" "I" ∈ wsX2_hasEachOnce := by decide +kernel
set_option maxHeartbeats 4000000 in
set_option maxRecDepth 100000 in
theorem k_X2_hasEachOnce_15 {p : Program} {l : Launch} {e : Env} {s : State} {m : MethodId} {args : Array Value} {below : List Frame} {meth : Method} {c : Code} {A : Nat → Prop} {D : va_G} {k : Nat → ClassId} {a : Nat → Nat} {R : Int32} {P : Int32} {L : Nat → Int32} {N : Nat → Nat → Int32} (C0 : xM p s m args meth c cX2_hasEachOnce 5 RX2 (some .boolean) wsX2_hasEachOnce) (hG : xG D k s) {post : Int32 → Prop} {k4 : Int64 → Int32 → Prop} (hk4 : ∀ (x1 : Int64) (x3 : Int32) (H : Heap) (locs : List Loc) (ls : Array Slot), k4 x1 x3 → va_P D vwCl (wT k a R P L N) H → va_D A (wT k a R P L N) → va_S A s.heap H locs → lv_has ls 5 [(0, .ref (a 0)), (1, .long x1), (3, .int x3)] → W p l e ({ frames := 0, cells := 0, slots := 0, locals := 0 }) s m args below meth c H locs 0 0 (MQ below (va_Qi (fun (r : Int32) (u : Unit) => post r) (fun u t => va_P D vwCl (wT k a R P L N) t.heap) A) args s 0 0 A) (F0 m 4 ls [])) : ∀ (n : Nat) (x1 : Int64) (x3 : Int32) (x4 : Int32) (H : Heap) (locs : List Loc) (ls : Array Slot), p_X2_hasEachOnce_15 R P L N post k4 n x1 x3 x4 → va_P D vwCl (wT k a R P L N) H → va_D A (wT k a R P L N) → va_S A s.heap H locs → lv_has ls 5 [(0, .ref (a 0)), (1, .long x1), (3, .int x3), (4, .int x4)] → W p l e ({ frames := 0, cells := 0, slots := 0, locals := 0 }) s m args below meth c H locs 0 0 (MQ below (va_Qi (fun (r : Int32) (u : Unit) => post r) (fun u t => va_P D vwCl (wT k a R P L N) t.heap) A) args s 0 0 A) (F0 m 15 ls []) := by
  obtain ⟨hx, hb, hr, hts, hown, hlocks, hml⟩ := id C0
  intro n
  induction n with
  | zero =>
    intro x1 x3 x4 H locs ls hf
    exact False.elim hf
  | succ n ih =>
    intro x1 x3 x4 H locs ls hf hP hD hS hl
    unfold p_X2_hasEachOnce_15 at hf
    refine lv_iload hx hb dX2_hasEachOnce_15 (lv_at hl 3 rfl) ?_
    refine lv_aload_n hx hb dX2_hasEachOnce_17 rfl (lv_at hl 0 rfl) ?_
    refine va_get (D := D) (ci := 2) (C := RX2) (T := TX2) (N := 4) hx hb hts in_X2_hasEachOnce_X2 hown hG.1 hP 0 rfl rfl 1 (by decide) (hts _ lk_X2_hasEachOnce_16) (fun _ h9 => h9) rfl dX2_hasEachOnce_18 ?_
    refine lv_iload_n hx hb dX2_hasEachOnce_21 rfl (lv_at hl 2 rfl) ?_
    obtain ⟨h_3, hf⟩ := hf
    refine va_iald hx hb hG.1 hP 2 0 rfl rfl h_3 dX2_hasEachOnce_22 ?_
    refine lv_icmp_ge (tgt := 48) hx hb dX2_hasEachOnce_23 (by decide) (fun c_4 => ?_) (fun c_4 => ?_)
    · have hf := hf.1 c_4
      refine lv_iinc (v := x3 + 1) (lv' := [(3, .int (x3 + 1)), (0, .ref (a 0)), (1, .long x1), (4, .int x4)]) hx hb dX2_hasEachOnce_48 hl (k := 2) rfl rfl (by decide) rfl (fun ls hl => ?_)
      refine lv_goto (tgt := 4) hx hb dX2_hasEachOnce_51 (by decide) ?_
      exact hk4 x1 (x3 + 1) _ _ _ hf hP hD hS (lv_sub hl [1, 2, 0] rfl)
    · have hf := hf.2 c_4
      refine lv_lload_n hx hb dX2_hasEachOnce_26 rfl (lv_at hl 1 rfl) ?_
      refine lv_lconst (v := 1) hx hb dX2_hasEachOnce_27 (by decide) ?_
      refine lv_aload_n hx hb dX2_hasEachOnce_28 rfl (lv_at hl 0 rfl) ?_
      refine va_get (D := D) (ci := 2) (C := RX2) (T := TX2) (N := 4) hx hb hts in_X2_hasEachOnce_X2 hown hG.1 hP 0 rfl rfl 0 (by decide) (hts _ lk_X2_hasEachOnce_11) (fun _ h9 => h9) rfl dX2_hasEachOnce_29 ?_
      refine lv_iload_n hx hb dX2_hasEachOnce_32 rfl (lv_at hl 2 rfl) ?_
      obtain ⟨h_5, hf⟩ := hf
      refine xAald (f := fun i => a (i + 3)) hx hb hG.1 hP 1 3 rfl rfl h_5 dX2_hasEachOnce_33 ?_
      refine lv_iload hx hb dX2_hasEachOnce_34 (lv_at hl 3 rfl) ?_
      obtain ⟨h_6, hf⟩ := hf
      refine va_iald hx hb hG.1 hP (x3.toNatClampNeg + 3) 0 (wT_row (vp_lt h_5)) rfl h_6 dX2_hasEachOnce_36 ?_
      refine lv_iconst (v := 1) hx hb dX2_hasEachOnce_37 (by decide) ?_
      refine lv_isub hx hb dX2_hasEachOnce_38 ?_
      refine lv_lshl (v := (1 : Int64) <<< (((N (x3.toNatClampNeg) x4.toNatClampNeg) - 1).toInt64 &&& 63)) hx hb dX2_hasEachOnce_39 rfl ?_
      refine lv_lor hx hb dX2_hasEachOnce_40 ?_
      refine lv_lstore_n (lv' := [(1, .long (x1 ||| ((1 : Int64) <<< (((N (x3.toNatClampNeg) x4.toNatClampNeg) - 1).toInt64 &&& 63)))), (0, .ref (a 0)), (3, .int x3), (4, .int x4)]) hx hb dX2_hasEachOnce_41 rfl hl (by decide) rfl (fun ls hl => ?_)
      refine lv_iinc (v := x4 + 1) (lv' := [(4, .int (x4 + 1)), (1, .long (x1 ||| ((1 : Int64) <<< (((N (x3.toNatClampNeg) x4.toNatClampNeg) - 1).toInt64 &&& 63)))), (0, .ref (a 0)), (3, .int x3)]) hx hb dX2_hasEachOnce_42 hl (k := 3) rfl rfl (by decide) rfl (fun ls hl => ?_)
      refine lv_goto (tgt := 15) hx hb dX2_hasEachOnce_45 (by decide) ?_
      exact ih (x1 ||| ((1 : Int64) <<< (((N (x3.toNatClampNeg) x4.toNatClampNeg) - 1).toInt64 &&& 63))) x3 (x4 + 1) _ _ _ hf hP hD hS (lv_sub hl [2, 1, 3, 0] rfl)
set_option maxHeartbeats 4000000 in
set_option maxRecDepth 100000 in
theorem k_X2_hasEachOnce_4 {p : Program} {l : Launch} {e : Env} {s : State} {m : MethodId} {args : Array Value} {below : List Frame} {meth : Method} {c : Code} {A : Nat → Prop} {D : va_G} {k : Nat → ClassId} {a : Nat → Nat} {R : Int32} {P : Int32} {L : Nat → Int32} {N : Nat → Nat → Int32} (C0 : xM p s m args meth c cX2_hasEachOnce 5 RX2 (some .boolean) wsX2_hasEachOnce) (hG : xG D k s) {post : Int32 → Prop} : ∀ (n : Nat) (x1 : Int64) (x3 : Int32) (H : Heap) (locs : List Loc) (ls : Array Slot), p_X2_hasEachOnce_4 R P L N post n x1 x3 → va_P D vwCl (wT k a R P L N) H → va_D A (wT k a R P L N) → va_S A s.heap H locs → lv_has ls 5 [(0, .ref (a 0)), (1, .long x1), (3, .int x3)] → W p l e ({ frames := 0, cells := 0, slots := 0, locals := 0 }) s m args below meth c H locs 0 0 (MQ below (va_Qi (fun (r : Int32) (u : Unit) => post r) (fun u t => va_P D vwCl (wT k a R P L N) t.heap) A) args s 0 0 A) (F0 m 4 ls []) := by
  obtain ⟨hx, hb, hr, hts, hown, hlocks, hml⟩ := id C0
  intro n
  induction n with
  | zero =>
    intro x1 x3 H locs ls hf
    exact False.elim hf
  | succ n ih =>
    intro x1 x3 H locs ls hf hP hD hS hl
    unfold p_X2_hasEachOnce_4 at hf
    refine lv_iload_n hx hb dX2_hasEachOnce_4 rfl (lv_at hl 2 rfl) ?_
    refine lv_aload_n hx hb dX2_hasEachOnce_5 rfl (lv_at hl 0 rfl) ?_
    refine va_get (D := D) (ci := 2) (C := RX2) (T := TX2) (N := 4) hx hb hts in_X2_hasEachOnce_X2 hown hG.1 hP 0 rfl rfl 2 (by decide) (hts _ lk_X2_hasEachOnce_20) (fun _ h9 => h9) rfl dX2_hasEachOnce_6 ?_
    refine lv_icmp_ge (tgt := 54) hx hb dX2_hasEachOnce_9 (by decide) (fun c_1 => ?_) (fun c_1 => ?_)
    · have hf := hf.1 c_1
      refine lv_lload_n hx hb dX2_hasEachOnce_54 rfl (lv_at hl 1 rfl) ?_
      refine lv_lconst (v := 1) hx hb dX2_hasEachOnce_55 (by decide) ?_
      refine lv_aload_n hx hb dX2_hasEachOnce_56 rfl (lv_at hl 0 rfl) ?_
      refine va_get (D := D) (ci := 2) (C := RX2) (T := TX2) (N := 4) hx hb hts in_X2_hasEachOnce_X2 hown hG.1 hP 0 rfl rfl 3 (by decide) (hts _ lk_X2_hasEachOnce_24) (fun _ h9 => h9) rfl dX2_hasEachOnce_57 ?_
      refine lv_lshl (v := (1 : Int64) <<< (P.toInt64 &&& 63)) hx hb dX2_hasEachOnce_60 rfl ?_
      refine lv_lconst (v := 1) hx hb dX2_hasEachOnce_61 (by decide) ?_
      refine lv_lsub hx hb dX2_hasEachOnce_62 ?_
      refine W.lcmp hx hb dX2_hasEachOnce_63 ?_
      refine lv_if_ne (tgt := 71) hx hb dX2_hasEachOnce_64 (by decide) (fun c_2 => ?_) (fun c_2 => ?_)
      · have hf := hf.2 c_2
        refine lv_iconst (v := 0) hx hb dX2_hasEachOnce_71 (by decide) ?_
        exact W.zret (v := 0) hx hb hr rfl (fun t ht hW => ⟨⟨(0 : Int32), (), rfl, hf, xHp ht hP⟩, hS.F ht⟩) hS.2.2 dX2_hasEachOnce_72 hlocks
      · have hf := hf.1 c_2
        refine lv_iconst (v := 1) hx hb dX2_hasEachOnce_67 (by decide) ?_
        refine lv_goto (tgt := 72) hx hb dX2_hasEachOnce_68 (by decide) ?_
        exact W.zret (v := 1) hx hb hr rfl (fun t ht hW => ⟨⟨(1 : Int32), (), rfl, hf, xHp ht hP⟩, hS.F ht⟩) hS.2.2 dX2_hasEachOnce_72 hlocks
    · have hf := hf.2 c_1
      refine lv_iconst (v := 0) hx hb dX2_hasEachOnce_12 (by decide) ?_
      refine lv_istore (lv' := [(4, .int 0), (0, .ref (a 0)), (1, .long x1), (3, .int x3)]) hx hb dX2_hasEachOnce_13 hl (by decide) rfl (fun ls hl => ?_)
      obtain ⟨n_7, hf⟩ := hf
      exact k_X2_hasEachOnce_15 C0 hG ih n_7 x1 x3 0 _ _ _ hf hP hD hS (lv_sub hl [1, 2, 3, 0] rfl)
set_option maxHeartbeats 4000000 in
set_option maxRecDepth 100000 in
theorem c_X2_hasEachOnce {l : Launch} {D : va_G} {k : Nat → ClassId} (a : Nat → Nat) (R : Int32) (P : Int32) (L : Nat → Int32) (N : Nat → Nat → Int32) {post : Int32 → Prop} (hf : p_X2_hasEachOnce R P L N post) : ctI l yX2_hasEachOnce wsX2_hasEachOnce ({ frames := 0, cells := 0, slots := 0, locals := 0 }) D k [.ref (a 0)] (wT k a R P L N) (fun u : Unit => wT k a R P L N) (fun (r : Int32) (u : Unit) => post r) := by
  refine Met.ofW (cc := cX2_hasEachOnce) (maxL := 5) (ret := (some .boolean)) (by decide) rfl ?_
  intro p e s m args below meth c s₁ B hml hv
  obtain ⟨rfl, hP, hG, hD0⟩ := hv
  have C0 : xM p s m ([.ref (a 0)] : List Value).toArray meth c cX2_hasEachOnce 5 RX2 (some .boolean) wsX2_hasEachOnce := ⟨B.exec, B.bytes, B.returns, atoms_spec (ws := wsX2_hasEachOnce) B.pre, findClass_of_methodNamed B.named, B.notSynchronized, hml⟩
  obtain ⟨hx, hb, hr, hts, hown, hlocks, hml⟩ := id C0
  have hD := xSelf hD0
  have hS : va_S (xIn (wT k a R P L N)) s.heap s.heap [] := va_S.rf
  generalize xIn (wT k a R P L N) = A at hD hS ⊢
  have hl := lv_entry ([.ref (a 0)]) (n := 5) (Nat.le_of_ble_eq_true rfl)
  rw [lg_entry_eq]
  generalize (lg_sl ([.ref (a 0)]) ++ List.replicate (5 - (lg_sl ([.ref (a 0)])).length) Slot.unset).toArray = ls at hl ⊢
  have hl : lv_has ls 5 [(0, .ref (a 0))] := hl
  unfold p_X2_hasEachOnce at hf
  refine lv_lconst (v := 0) hx hb dX2_hasEachOnce_0 (by decide) ?_
  refine lv_lstore_n (lv' := [(1, .long 0), (0, .ref (a 0))]) hx hb dX2_hasEachOnce_1 rfl hl (by decide) rfl (fun ls hl => ?_)
  refine lv_iconst (v := 0) hx hb dX2_hasEachOnce_2 (by decide) ?_
  refine lv_istore_n (lv' := [(3, .int 0), (1, .long 0), (0, .ref (a 0))]) hx hb dX2_hasEachOnce_3 rfl hl (by decide) rfl (fun ls hl => ?_)
  obtain ⟨n_8, hf⟩ := hf
  exact k_X2_hasEachOnce_4 C0 hG n_8 0 0 _ _ _ hf hP hD hS (lv_sub hl [2, 1, 0] rfl)
