/-- which arrays of arrays the tables know -/
def va_AOA (ty : FieldType) (U : State) : Prop := (Cond.arrayOver (.array ty)).before #[] U = true
theorem va_AOA.use {ty : FieldType} {B : Array Value} {U : State} (h : va_AOA ty U) : (Cond.arrayOver (.array ty)).before B U = true := h
/-! ===== BEGIN new T[n][m]: the outer array a place, the inner ones among the pooled ===== -/
/-- f, but v at every address of l -/
def vr_up {α : Type} (f : Nat → α) (l : List Nat) (v : α) : Nat → α := fun a => if a ∈ l then v else f a
theorem vr_up_in {α : Type} {f : Nat → α} {l : List Nat} {v : α} {a : Nat} (h : a ∈ l) : vr_up f l v a = v := if_pos h
theorem vr_up_ne {α : Type} {f : Nat → α} {l : List Nat} {v : α} {a : Nat} (h : a ∉ l) : vr_up f l v a = f a := if_neg h
theorem vr_rows {L l : List Nat} {f : Nat → va_E} {e : va_E} (h : ∀ a, a ∈ l → a ∉ L) : va_pl L f ++ l.map (fun a => (a, e)) = va_pl (L ++ l) (vr_up f l e) := by
  unfold va_pl
  rw [List.map_append]
  congr 1
  · apply List.map_congr_left
    intro a ha
    rw [vr_up_ne (fun q => h a q ha)]
  · apply List.map_congr_left
    intro a ha
    rw [vr_up_in ha]
theorem vr_lay {X rows : va_W} {x : Nat × va_E} {pl : va_W} {D : va_G} {cl : List vw_C} {H : Heap} (hP : va_P D cl (((X ++ pl) ++ [x]) ++ rows) H) : va_P D cl ((X ++ [x]) ++ (pl ++ rows)) H := by
  rw [List.append_assoc (X ++ pl)] at hP
  have h := va_P.swap hP
  rw [← List.append_assoc X] at h
  have h2 := va_P.swap h
  rw [List.append_assoc (X ++ [x])] at h2
  exact h2
theorem vr_layD {X rows : va_W} {x : Nat × va_E} {pl : va_W} {A : Nat → Prop} (hD : va_D A (((X ++ pl) ++ [x]) ++ rows)) : va_D A ((X ++ [x]) ++ (pl ++ rows)) := by
  rw [List.append_assoc (X ++ pl)] at hD
  have h := va_D.swap hD
  rw [← List.append_assoc X] at h
  have h2 := va_D.swap h
  rw [List.append_assoc (X ++ [x])] at h2
  exact h2
theorem vr_outer (c : ClassId) (N h0 : Nat) : ∀ i : Nat, Jvm.Free.Multi.outerC c N h0 i = arrV c N (fun j => va_rf (if j < i then some (h0 + 1 + j) else none))
  | 0 => by
    show ({ cls := c, slots := Array.replicate N .null, vm := .none } : Cell) = _
    rw [arrV_new]
    refine congrArg (arrV c N) (funext fun j => ?_)
    simp [va_rf]
  | i + 1 => by
    show (Jvm.Free.Multi.outerC c N h0 i).setSlot i (.ref (h0 + 1 + i)) = _
    rw [vr_outer c N h0 i, arrV_store]
    refine congrArg (arrV c N) (funext fun j => ?_)
    by_cases e : j = i
    · subst e
      simp [updV, va_rf]
    · by_cases h : j < i
      · simp [updV, e, h, Nat.lt_succ_of_lt h]
      · simp [updV, e, h, show ¬ j < i + 1 by omega]
section VGM
variable {p : Program} {l : Launch} {e : Env} {R : Room} {s : State} {m : MethodId} {args : Array Value} {below : List Frame} {meth : Method} {c : Code} {H : Heap} {locs : List Loc} {cells slots : Nat} {Q : State → Prop}
variable {cc : ByteArray} {pc : Nat} {ls : Array Slot} {rest : List Value} {D : va_G} {cl : List vw_C} {A : Nat → Prop} {a : Nat} {tys : List (ClassId × FieldType)} {ws : va_W} {H0 : Heap}
theorem va_mna {X : va_W} {L : List Nat} {f : Nat → va_E} {cc : ByteArray} (hexec : p.tables.exec = Jvm.exec) (hb : c.code = cc) {own : String} {index : Nat} {ty : FieldType} {cy : ClassId} (hown : s.vm.findClass own = some m.cls) (hclink : (Cond.classLink own index ("[" ++ (FieldType.array ty).toString)).before args s = true) (hover : va_AOA ty s) (harr : (Cond.arrayClass ty).before args s = true) (hcy : s.vm.findClass (FieldType.array ty).toString = some cy)
    (hK : va_K D cl tys s) (hP : va_P D cl (X ++ va_pl L f) H) (hD : va_D A (X ++ va_pl L f)) (hS : va_S A H0 H locs) (hA : ∀ q, H0.size ≤ q → A q) {n k : Int32} {N' K' : Nat} {z : vp_A} (hn : ¬ n < 0) (hk : ¬ k < 0) (hN : n.toNatClampNeg = N') (hM : k.toNatClampNeg = K')
    (hb1 : N' * 4 ≤ 536870912) (hb2 : K' * componentBytes ty ≤ 536870912) (hb3 : K' ≤ 536870912) (hdf : fits ty (defaultValue ty) = true) (hdd : (defaultValue ty).isDefault = true) (hcells : cells + (1 + N') ≤ R.cells) (hslots : slots + (N' + N' * K') ≤ R.slots) (hz : ∀ c : ClassId, Jvm.Free.Multi.innerC c K' (defaultValue ty) = vp_cell c z) (hdg : decode cc pc = .ok (.multianewarray index 2, 4))
    (kk : ∀ (q : Nat) (r : Nat → Nat) (cA : ClassId) (H1 : Heap), (∀ i j : Nat, i < N' → j < N' → r i = r j → i = j) → (∀ i : Nat, i < N' → r i ∉ L) → va_K D cl (tys ++ [(cA, .array ty)]) s →
      va_P D cl ((X ++ [(q, .inl (cA, N', .inr (.inr (.inr (.inr (fun i => if i < N' then some (r i) else none))))))]) ++ va_pl (L ++ (List.range N').map r) (vr_up f ((List.range N').map r) (.inl (cy, z)))) H1 → va_D A ((X ++ [(q, .inl (cA, N', .inr (.inr (.inr (.inr (fun i => if i < N' then some (r i) else none))))))]) ++ va_pl (L ++ (List.range N').map r) (vr_up f ((List.range N').map r) (.inl (cy, z)))) → va_S A H0 H1 locs →
      W p l e R s m args below meth c H1 locs (cells + 1 + N') (slots + N' + N' * K') Q (F0 m (pc + 4) ls (.ref q :: rest))) : W p l e R s m args below meth c H locs cells slots Q (F0 m pc ls (.int k :: .int n :: rest)) := by
  subst hN
  subst hM
  intro T hT Xs
  obtain ⟨vm₁, cA, comp, -, fA, fC, hO, -, X', step⟩ := Xs.multianewarray2F hexec hown hclink (va_AOA.use hover) harr (g := F0 m pc ls (.int k :: .int n :: rest)) rfl (by rw [hb]; exact hdg) rfl hn hk hb1 hb2 hb3 hdf hdd hcells hslots
  have ec : some cy = some comp := hcy.symm.trans fC
  cases ec
  generalize hF : Jvm.Free.Multi.fill (T.setVm vm₁) cA cy n.toNatClampNeg k.toNatClampNeg (defaultValue ty) n.toNatClampNeg = F at X' step
  have hTh : (T.setVm vm₁).heap = H := hT
  obtain ⟨f1, f2, -, -⟩ := Jvm.Free.Multi.fill_facts (T.setVm vm₁) cA cy n.toNatClampNeg k.toNatClampNeg (defaultValue ty) n.toNatClampNeg
  rw [hF, hTh] at f1 f2
  have hold : ∀ x : Nat, x < H.size → F.heap[x]? = H[x]? := fun x hx => by
    have := Jvm.Free.Multi.fill_old (T.setVm vm₁) cA cy n.toNatClampNeg k.toNatClampNeg (defaultValue ty) (a := x) (by rw [hTh]; exact hx) n.toNatClampNeg
    rw [hF, hTh] at this
    exact this
  have hrow : ∀ j : Nat, j < n.toNatClampNeg → F.heap[H.size + 1 + j]? = some (vp_cell cy z) := fun j hj => by
    have := Jvm.Free.Multi.fill_inner (T.setVm vm₁) cA cy n.toNatClampNeg k.toNatClampNeg (defaultValue ty) n.toNatClampNeg j hj
    rw [hF, hTh, hz] at this
    exact this
  have hout : Jvm.Free.Multi.outerC cA n.toNatClampNeg H.size n.toNatClampNeg = vp_cell cA (n.toNatClampNeg, .inr (.inr (.inr (.inr (fun i => if i < n.toNatClampNeg then some (H.size + 1 + i) else none))))) := by
    rw [vp_cell_q]
    exact vr_outer cA n.toNatClampNeg H.size n.toNatClampNeg
  rw [hout] at f2
  have hlt : ∀ a, a ∈ L → a < H.size := fun a ha => by
    obtain ⟨k9, hk9⟩ := va_pl_get (X := X) (f := f) ha
    exact (hP k9 _ hk9).lt
  have hnl : ∀ i : Nat, i < n.toNatClampNeg → H.size + 1 + i ∉ L := fun i _ h => by
    have := hlt _ h
    omega
  have hnm : ∀ a, a ∈ (List.range n.toNatClampNeg).map (fun i => H.size + 1 + i) → a ∉ L := fun a ha h => by
    obtain ⟨i, -, rfl⟩ := List.mem_map.mp ha
    have := hlt _ h
    omega
  have hP0 : va_P D cl (X ++ va_pl L f) F.heap := hP.kept (fun k9 x hx => hold x.1 ((hP k9 x hx).lt))
  have hP1 : va_P D cl ((X ++ va_pl L f) ++ [(H.size, .inl (cA, n.toNatClampNeg, .inr (.inr (.inr (.inr (fun i => if i < n.toNatClampNeg then some (H.size + 1 + i) else none))))))]) F.heap := hP0.app (fun k9 x hx => by
    have h0 : k9 < 1 := (List.getElem?_eq_some_iff.mp hx).1
    rw [show k9 = 0 by omega] at hx
    cases hx
    exact f2)
  have hP2 : va_P D cl (((X ++ va_pl L f) ++ [(H.size, .inl (cA, n.toNatClampNeg, .inr (.inr (.inr (.inr (fun i => if i < n.toNatClampNeg then some (H.size + 1 + i) else none))))))]) ++ ((List.range n.toNatClampNeg).map (fun i => H.size + 1 + i)).map (fun a => (a, .inl (cy, z)))) F.heap := hP1.app (fun k9 x hx => by
    obtain ⟨a, ha, rfl⟩ := List.mem_map.mp (List.mem_of_getElem? hx)
    obtain ⟨i, hi, rfl⟩ := List.mem_map.mp ha
    exact hrow i (List.mem_range.mp hi))
  have hD2 : va_D A (((X ++ va_pl L f) ++ [(H.size, .inl (cA, n.toNatClampNeg, .inr (.inr (.inr (.inr (fun i => if i < n.toNatClampNeg then some (H.size + 1 + i) else none))))))]) ++ ((List.range n.toNatClampNeg).map (fun i => H.size + 1 + i)).map (fun a => (a, .inl (cy, z)))) := by
    have hD1 := hD.push (e := .inl (cA, n.toNatClampNeg, .inr (.inr (.inr (.inr (fun i => if i < n.toNatClampNeg then some (H.size + 1 + i) else none)))))) hP rfl (hA _ hS.1)
    generalize hW1 : (X ++ va_pl L f) ++ [(H.size, .inl (cA, n.toNatClampNeg, .inr (.inr (.inr (.inr (fun i => if i < n.toNatClampNeg then some (H.size + 1 + i) else none))))))] = W1 at hD1 hP1 ⊢
    have hle : ∀ (k9 : Nat) (x : Nat × va_E), W1[k9]? = some x → x.1 ≤ H.size := fun k9 x hx => by
      rw [← hW1] at hx
      by_cases hl : k9 < (X ++ va_pl L f).length
      · rw [List.getElem?_append_left hl] at hx
        exact Nat.le_of_lt ((hP k9 x hx).lt)
      · rw [List.getElem?_append_right (by omega)] at hx
        have h0 : k9 - (X ++ va_pl L f).length < 1 := (List.getElem?_eq_some_iff.mp hx).1
        rw [show k9 - (X ++ va_pl L f).length = 0 by omega] at hx
        cases hx
        exact Nat.le_refl _
    have hr : ∀ (k9 : Nat) (x : Nat × va_E), (((List.range n.toNatClampNeg).map (fun i => H.size + 1 + i)).map (fun a => ((a, .inl (cy, z)) : Nat × va_E)))[k9]? = some x → x.1 = H.size + 1 + k9 := fun k9 x hx => by
      rw [List.getElem?_map, List.getElem?_map] at hx
      by_cases h9 : k9 < n.toNatClampNeg
      · rw [List.getElem?_range h9] at hx
        cases hx
        rfl
      · have hn0 : (List.range n.toNatClampNeg)[k9]? = none := List.getElem?_eq_none (by rw [List.length_range]; omega)
        rw [hn0] at hx
        cases hx
    refine ⟨fun i j x y hi hj hxy => ?_, fun k9 x hx => ?_⟩
    · by_cases h1 : i < W1.length <;> by_cases h2 : j < W1.length
      · rw [List.getElem?_append_left h1] at hi
        rw [List.getElem?_append_left h2] at hj
        exact hD1.1 i j x y hi hj hxy
      · rw [List.getElem?_append_left h1] at hi
        rw [List.getElem?_append_right (by omega)] at hj
        have := hle _ _ hi
        have := hr _ _ hj
        omega
      · rw [List.getElem?_append_right (by omega)] at hi
        rw [List.getElem?_append_left h2] at hj
        have := hle _ _ hj
        have := hr _ _ hi
        omega
      · rw [List.getElem?_append_right (by omega)] at hi hj
        have := hr _ _ hi
        have := hr _ _ hj
        omega
    · by_cases h1 : k9 < W1.length
      · rw [List.getElem?_append_left h1] at hx
        exact hD1.2 k9 x hx
      · rw [List.getElem?_append_right (by omega)] at hx
        have := hr _ _ hx
        exact hA _ (by have := hS.1; omega)
  have hAr : ArrOfT s cA (.array ty) := fun N9 z9 => by
    obtain ⟨-, k9, hk9, cm9, hkk9⟩ := (hO 0 0 0).1
    exact ⟨(fun q hq => by cases hq), k9, hk9, cm9, hkk9⟩
  have hK2 : va_K D cl (tys ++ [(cA, .array ty)]) s := ⟨hK.1, fun k9 x hx => by
    by_cases hl : k9 < tys.length
    · rw [List.getElem?_append_left hl] at hx
      exact hK.2 k9 x hx
    · rw [List.getElem?_append_right (by omega)] at hx
      have h0 : k9 - tys.length < 1 := (List.getElem?_eq_some_iff.mp hx).1
      rw [show k9 - tys.length = 0 by omega] at hx
      cases hx
      exact ⟨hAr, fA⟩⟩
  obtain ⟨t, a1, b1⟩ := kk H.size (fun i => H.size + 1 + i) cA F.heap (fun i j _ _ h => by have h9 : H.size + 1 + i = H.size + 1 + j := h; omega) hnl hK2 (by rw [← vr_rows hnm]; exact vr_lay hP2) (by rw [← vr_rows hnm]; exact vr_layD hD2) ⟨by rw [f1]; have := hS.1; omega, fun x h1 h2 => (hold x (Nat.lt_of_lt_of_le h1 hS.1)).trans (hS.2.1 x h1 h2), hS.2.2⟩ F rfl X'
  refine ⟨t, step t ?_, b1⟩
  have e : T.heap.size = H.size := by rw [hT]
  rw [e]
  exact a1
end VGM
/-! ===== END ===== -/

def xO (U : State) : Prop := va_AOA .int U ∧ va_AOA .long U ∧ va_AO RX1 U
theorem va_AOA.moved {ty : FieldType} {u U : State} (hvm : u.vm.Alike U.vm) (h : va_AOA ty u) : va_AOA ty U := by
  unfold va_AOA Cond.before at h ⊢
  simp only [Cond.holds, Cond.value, beq_iff_eq] at h ⊢
  rw [hvm.findClass]
  cases hc : u.vm.findClass (FieldType.array ty).toString with
  | none => simp [hc] at h
  | some comp =>
    simp only [hc, Option.bind_some, Option.bind_eq_some_iff, Option.map_eq_some_iff] at h ⊢
    obtain ⟨c, hi, k, hk, hb⟩ := h
    obtain ⟨k', hk', he⟩ := hvm.2.2 _ _ hk
    refine ⟨c, ?_, k', hk', ?_⟩
    · have e1 := va_idx_bare U.vm comp
      have e2 := va_idx_bare u.vm comp
      have e3 : U.vm.bare = u.vm.bare := by first | exact hvm.bare_eq | exact hvm.bare_eq.symm
      rw [e3] at e1
      exact (e1.symm.trans e2).trans hi
    · rw [he, hvm.findClass]
      exact hb
theorem xO.warm {s U : State} (hW : s.WarmedH U.vm) (h : xO s) : xO U := ⟨h.1.moved hW.alike, h.2.1.moved hW.alike, va_AO.moved hW.alike h.2.2⟩
theorem xO.calling {U : State} {g : JFrame} {mk : MethodId} {a : Array Value} (h : xO U) : xO (U.calling g mk a) := ⟨va_AOA.moved (u := U) (U := U.calling g mk a) (Vm.Alike.refl U.vm) h.1, va_AOA.moved (u := U) (U := U.calling g mk a) (Vm.Alike.refl U.vm) h.2.1, va_AO.moved (u := U) (U := U.calling g mk a) (Vm.Alike.refl U.vm) h.2.2⟩
theorem xCellQ {c : ClassId} {N : Nat} {f g : Nat → Option Nat} (h : ∀ i, i < N → f i = g i) : vp_cell c (N, .inr (.inr (.inr (.inr f)))) = vp_cell c (N, .inr (.inr (.inr (.inr g)))) := by
  rw [vp_cell_q, vp_cell_q]
  unfold arrV
  have e : (fun j : Fin N => va_rf (f j.val)) = (fun j : Fin N => va_rf (g j.val)) := funext fun j => by rw [h j.val j.isLt]
  rw [e]
theorem xJoinN {D : va_G} {cl : List vw_C} {A : Nat → Prop} {ws w r w2 : va_W} {H H1 : Heap} (hP : va_P D cl ws H) (hD : va_D A ws) (hp : ws.Perm (w ++ r)) (hk : ∀ q : Nat, q < H.size → ¬ va_A w H.size q → H1[q]? = H[q]?) (hF : ∀ q, va_A w H.size q → A q) (h1 : va_P D cl w2 H1) (hD1 : va_D (va_A w H.size) w2) : va_P D cl (w2 ++ r) H1 ∧ va_D A (w2 ++ r) := by
  have hP2 := xP_perm hp hP
  have hD2 := xD_perm hp hD
  have hapart : ∀ x ∈ r, ¬ va_A w H.size x.1 := by
    intro x hx h
    have hlt := (xP_iff.mp hP2 x (List.mem_append_right _ hx)).lt
    rcases h with ⟨j, e, hj⟩ | h
    · rw [xD_iff, List.map_append, List.nodup_append] at hD2
      exact hD2.1.2.2 x.1 (List.mem_map.mpr ⟨(x.1, e), List.mem_of_getElem? hj, rfl⟩) x.1 (List.mem_map_of_mem hx) rfl
    · omega
  refine ⟨xP_iff.mpr fun x hx => ?_, ?_⟩
  · rcases List.mem_append.mp hx with h | h
    · exact xP_iff.mp h1 x h
    · have hx0 := xP_iff.mp hP2 x (List.mem_append_right _ h)
      exact hx0.kept (hk x.1 hx0.lt (hapart x h))
  · rw [xD_iff, List.map_append, List.nodup_append] at hD2
    rw [xD_iff] at hD1
    rw [xD_iff, List.map_append, List.nodup_append]
    refine ⟨⟨hD1.1, hD2.1.2.1, fun a ha b hb e => ?_⟩, fun x hx => ?_⟩
    · obtain ⟨x, hx, rfl⟩ := List.mem_map.mp ha
      obtain ⟨y, hy, rfl⟩ := List.mem_map.mp hb
      exact hapart y hy (e ▸ hD1.2 x hx)
    · rcases List.mem_append.mp hx with h | h
      · exact hF _ (hD1.2 x h)
      · exact hD2.2 x (List.mem_append_right _ h)
/-- a maker's start and end -/
def xPreN (D : va_G) (k : Nat → ClassId) (av : List Value) (w : va_W) (sz : Nat) : Array Value → State → Prop := va_Pc av (fun U => U.heap.size = sz ∧ va_P D vwCl w U.heap ∧ xG D k U ∧ xO U ∧ va_D (fun _ => True) w)
def ctN (l : Launch) (y : MethodName) (ws : List Cond) (rm : Room) (D : va_G) (k : Nat → ClassId) (av : List Value) (w : va_W) (sz : Nat) {S : Type} (w2 : S → va_W) (post : S → Prop) (mc ms : Nat) : Prop := Met l y ws rm (xPreN D k av w sz) (va_Qv post (fun u t => va_P D vwCl (w2 u) t.heap ∧ va_D (va_A w sz) (w2 u)) (va_A w sz)) mc ms (va_A w sz)
theorem xBlindN {D : va_G} {k : Nat → ClassId} {av : List Value} {w : va_W} {sz : Nat} : FrameBlind (xPreN D k av w sz) := fun _ _ _ _ h => ⟨h.1, h.2.1, h.2.2.1, h.2.2.2.1.calling, h.2.2.2.2.1.calling, h.2.2.2.2.2⟩
section XN
variable {p : Program} {l : Launch} {e : Env} {R : Room} {s : State} {m : MethodId} {args : Array Value} {below : List Frame} {meth : Method} {c : Code} {H : Heap} {locs : List Loc} {cells slots : Nat} {Q : State → Prop}
variable {cc : ByteArray} {pc : Nat} {ls : Array Slot} {rest st0 : List Value} {D : va_G} {A : Nat → Prop} {a : Nat} {H0 : Heap} {k : Nat → ClassId} {ws w r : va_W} {av : List Value}
theorem xPreNS (hG : xG D k s) (hO : xO s) (hP : va_P D vwCl ws H) (hD : va_D A ws) (hp : ws.Perm (w ++ r)) : PreS s H (xPreN D k av w H.size) av :=
  ⟨xBlindN, fun U hU hW => ⟨rfl, by rw [hU], by rw [hU]; exact xSub hP hp, hG.warm hW, hO.warm hW, xSubD hD hp⟩⟩
theorem xFreeN (hD : va_D A ws) (hS : va_S A H0 H locs) (hA : ∀ q, H0.size ≤ q → A q) (hp : ws.Perm (w ++ r)) : ∀ q, va_A w H.size q → A q := by
  intro q h
  rcases h with ⟨j, e, hj⟩ | h
  · exact (xD_iff.mp hD).2 (q, e) (hp.mem_iff.mpr (List.mem_append_left _ (List.mem_of_getElem? hj)))
  · exact hA q (Nat.le_trans hS.1 h)
theorem xCallN {S : Type} {post : S → Prop} {w2 : S → va_W} {ar : Array Value} {mc ms : Nat} (hr : va_Run p l e R s m args below meth c H locs cells slots mc ms (F0 m pc ls st0) rest (va_Qv post (fun u t => va_P D vwCl (w2 u) t.heap ∧ va_D (va_A w H.size) (w2 u)) (va_A w H.size) ar) (va_A w H.size)) (hP : va_P D vwCl ws H) (hD : va_D A ws) (hS : va_S A H0 H locs) (hA : ∀ q, H0.size ≤ q → A q) (hp : ws.Perm (w ++ r))
    (kk : ∀ (u : S) (H1 : Heap) (locs1 : List Loc), post u → va_P D vwCl (w2 u ++ r) H1 → va_D A (w2 u ++ r) → va_S A H0 H1 locs1 → W p l e R s m args below meth c H1 locs1 (cells + mc) (slots + ms) Q (F0 m (pc + 3) ls rest)) : W p l e R s m args below meth c H locs cells slots Q (F0 m pc ls st0) := by
  refine va_callv hr hS (fun q _ h => xFreeN hD hS hA hp q h) (xFreeN hD hS hA hp) (fun u t H1 locs1 ht hvm hw hB hz1 hk1 hS1 => ?_)
  obtain ⟨hB, hBD⟩ := hB
  rw [ht] at hB
  obtain ⟨h1, h2⟩ := xJoinN hP hD hp hk1 (xFreeN hD hS hA hp) hB hBD
  exact kk u H1 locs1 hw h1 h2 hS1
/-- new T[n] of a known kind -/
theorem xNewa (hexec : p.tables.exec = Jvm.exec) (hb : c.code = cc) {atype : ArrayType} (harr : (Cond.arrayClass (newarray.typeOf atype)).before args s = true) {ty : FieldType} (hty : newarray.typeOf atype = ty) (hK : va_K D vwCl (xTys k) s) (t0 : Nat) {cA : ClassId} (ht : (xTys k)[t0]? = some (cA, ty)) (hnm : va_RA s cA ty → s.vm.findClass ("[" ++ ty.toString) = some cA) (hP : va_P D vwCl ws H) (hD : va_D A ws) (hS : va_S A H0 H locs) (hA : ∀ q, H0.size ≤ q → A q)
    {n : Int32} {N' : Nat} {a0 : vp_A} (ha : ∀ cA : ClassId, vp_cell cA a0 = arrV cA N' (fun _ => defaultValue ty)) (hn : ¬ n < 0) (hN : n.toNatClampNeg = N') (hbytes : N' * componentBytes ty ≤ 536870912) (hcells : cells + 1 ≤ R.cells) (hslots : slots + N' ≤ R.slots) (hdg : decode cc pc = .ok (.newarray atype, 2))
    (kk : ∀ (q : Nat) (H1 : Heap), va_P D vwCl (ws ++ [(q, .inl (cA, a0))]) H1 → va_D A (ws ++ [(q, .inl (cA, a0))]) → va_S A H0 H1 locs →
      W p l e R s m args below meth c H1 locs (cells + 1) (slots + N') Q (F0 m (pc + 2) ls (.ref q :: rest))) : W p l e R s m args below meth c H locs cells slots Q (F0 m pc ls (.int n :: rest)) := by
  refine va_newa hexec hb harr hty hK hP hD hS hA ha hn hN hbytes hcells hslots hdg (fun q c2 H1 hK2 hP1 hD1 hS1 => ?_)
  have h1 := hnm (hK.2 t0 _ ht).2
  have h2 := (hK2.2 (xTys k).length (c2, ty) (by simp)).2
  have e : c2 = cA := by
    cases ty with
    | object C => obtain ⟨kA, comp, _, _, _, h4⟩ := h2; exact Option.some.inj (h4.symm.trans h1)
    | _ => exact Option.some.inj (h2.symm.trans h1)
  subst e
  exact kk q H1 hP1 hD1 hS1
/-- new T[n][m] of known kinds -/
theorem xMna (hexec : p.tables.exec = Jvm.exec) (hb : c.code = cc) {own : String} {index : Nat} {ty : FieldType} {cy cA : ClassId} (hown : s.vm.findClass own = some m.cls) (hclink : (Cond.classLink own index ("[" ++ (FieldType.array ty).toString)).before args s = true) (hover : va_AOA ty s) (harr : (Cond.arrayClass ty).before args s = true) (hcy : s.vm.findClass (FieldType.array ty).toString = some cy) (hcA : s.vm.findClass ("[" ++ (FieldType.array ty).toString) = some cA)
    (hK : va_K D vwCl (xTys k) s) (hP : va_P D vwCl ws H) (hD : va_D A ws) (hS : va_S A H0 H locs) (hA : ∀ q, H0.size ≤ q → A q) {n n2 : Int32} {N' K' : Nat} {z : vp_A} (hn : ¬ n < 0) (hk : ¬ n2 < 0) (hN : n.toNatClampNeg = N') (hM : n2.toNatClampNeg = K')
    (hb1 : N' * 4 ≤ 536870912) (hb2 : K' * componentBytes ty ≤ 536870912) (hb3 : K' ≤ 536870912) (hdf : fits ty (defaultValue ty) = true) (hdd : (defaultValue ty).isDefault = true) (hcells : cells + (1 + N') ≤ R.cells) (hslots : slots + (N' + N' * K') ≤ R.slots) (hz : ∀ c : ClassId, Jvm.Free.Multi.innerC c K' (defaultValue ty) = vp_cell c z) (hdg : decode cc pc = .ok (.multianewarray index 2, 4))
    (kk : ∀ (q : Nat) (f : Nat → Nat) (H1 : Heap), va_P D vwCl (ws ++ ([(q, .inl (cA, N', rfs f))] ++ (List.range N').map (fun i => (f i, .inl (cy, z))))) H1 → va_D A (ws ++ ([(q, .inl (cA, N', rfs f))] ++ (List.range N').map (fun i => (f i, .inl (cy, z))))) → va_S A H0 H1 locs →
      W p l e R s m args below meth c H1 locs (cells + 1 + N') (slots + N' + N' * K') Q (F0 m (pc + 4) ls (.ref q :: rest))) : W p l e R s m args below meth c H locs cells slots Q (F0 m pc ls (.int n2 :: .int n :: rest)) := by
  have e0 : ws ++ va_pl [] (fun _ => (.inr (0, []) : va_E)) = ws := by show ws ++ [] = ws; rw [List.append_nil]
  refine va_mna (X := ws) (L := []) (f := fun _ => .inr (0, [])) hexec hb hown hclink hover harr hcy hK (by rw [e0]; exact hP) (by rw [e0]; exact hD) hS hA hn hk hN hM hb1 hb2 hb3 hdf hdd hcells hslots hz hdg (fun q f c2 H1 _ _ hK2 hP1 hD1 hS1 => ?_)
  have h2 := (hK2.2 (xTys k).length (c2, .array ty) (by simp)).2
  have ec : c2 = cA := Option.some.inj (h2.symm.trans hcA)
  subst ec
  have em : va_pl ([] ++ (List.range N').map f) (vr_up (fun _ => (.inr (0, []) : va_E)) ((List.range N').map f) (.inl (cy, z))) = (List.range N').map (fun i => (f i, .inl (cy, z))) := by
    show ((List.range N').map f).map (fun a => (a, vr_up (fun _ => (.inr (0, []) : va_E)) ((List.range N').map f) (.inl (cy, z)) a)) = _
    rw [List.map_map]
    apply List.map_congr_left
    intro i hi
    show (f i, vr_up _ _ _ (f i)) = _
    rw [vr_up_in (List.mem_map_of_mem hi)]
  rw [em] at hP1 hD1
  refine kk q f H1 (xP_iff.mpr fun x hx => ?_) (xD_adr ?_ hD1) hS1
  · rw [← List.append_assoc] at hx
    rcases List.mem_append.mp hx with h | h
    · rcases List.mem_append.mp h with h | h
      · exact xP_iff.mp hP1 x (List.mem_append_left _ (List.mem_append_left _ h))
      · rw [List.mem_singleton] at h
        subst h
        have h3 := xP_iff.mp hP1 _ (List.mem_append_left _ (List.mem_append_right _ (List.mem_singleton.mpr rfl)))
        show H1[q]? = some (vp_cell _ _)
        exact h3.trans (congrArg some (xCellQ fun i hi => if_pos hi))
    · exact xP_iff.mp hP1 x (List.mem_append_right _ h)
  · simp only [List.map_append, List.map_cons, List.map_nil, List.append_assoc]
end XN
def xA3 (h q1 q2 : Nat) (f : Nat → Nat) : Nat → Nat
  | 0 => h
  | 1 => q1
  | 2 => q2
  | n + 3 => f n
def xA4 (h q1 q2 q3 : Nat) : Nat → Nat
  | 0 => h
  | 1 => q1
  | 2 => q2
  | _ => q3
def xA5 (h q1 q2 q3 q4 : Nat) (f1 f2 f3 f4 : Nat → Nat) : Nat → Nat
  | 0 => h
  | 1 => q1
  | 2 => q2
  | 3 => q3
  | 4 => q4
  | n + 5 => if n < 6 then f1 n else if n < 12 then f2 (n - 6) else if n < 18 then f3 (n - 12) else f4 (n - 18)
def xA8 (s0 s1 s2 s3 : Nat → Nat) : Nat → Nat := fun n => if n < 2 then s0 n else if n < 4 then s1 (n - 2) else if n < 6 then s2 (n - 4) else s3 (n - 6)
def xA20 (h q1 q2 q3 q4 q5 q6 q7 q8 q9 q10 q11 q12 q13 q14 q15 q16 q17 q18 q19 : Nat) : Nat → Nat
  | 0 => h
  | 1 => q1
  | 2 => q2
  | 3 => q3
  | 4 => q4
  | 5 => q5
  | 6 => q6
  | 7 => q7
  | 8 => q8
  | 9 => q9
  | 10 => q10
  | 11 => q11
  | 12 => q12
  | 13 => q13
  | 14 => q14
  | 15 => q15
  | 16 => q16
  | 17 => q17
  | 18 => q18
  | _ => q19
/-- the lanes at first: all -1 -/
def xLanes : Nat → Int32 := upd (upd (upd (upd (fun _ => 0) (0 : Int32).toNatClampNeg (-1)) (1 : Int32).toNatClampNeg (-1)) (2 : Int32).toNatClampNeg (-1)) (3 : Int32).toNatClampNeg (-1)
theorem xA5_1 {h q1 q2 q3 q4 : Nat} {f1 f2 f3 f4 : Nat → Nat} {i : Nat} (hi : i < 6) : xA5 h q1 q2 q3 q4 f1 f2 f3 f4 (i + 5) = f1 i := if_pos hi
theorem xA5_2 {h q1 q2 q3 q4 : Nat} {f1 f2 f3 f4 : Nat → Nat} {i : Nat} (hi : i < 6) : xA5 h q1 q2 q3 q4 f1 f2 f3 f4 (i + 11) = f2 i := by
  show (if i + 6 < 6 then f1 (i + 6) else if i + 6 < 12 then f2 (i + 6 - 6) else if i + 6 < 18 then f3 (i + 6 - 12) else f4 (i + 6 - 18)) = f2 i
  rw [if_neg (by omega), if_pos (by omega), Nat.add_sub_cancel]
theorem xA5_3 {h q1 q2 q3 q4 : Nat} {f1 f2 f3 f4 : Nat → Nat} {i : Nat} (hi : i < 6) : xA5 h q1 q2 q3 q4 f1 f2 f3 f4 (i + 17) = f3 i := by
  show (if i + 12 < 6 then f1 (i + 12) else if i + 12 < 12 then f2 (i + 12 - 6) else if i + 12 < 18 then f3 (i + 12 - 12) else f4 (i + 12 - 18)) = f3 i
  rw [if_neg (by omega), if_neg (by omega), if_pos (by omega), Nat.add_sub_cancel]
theorem xA5_4 {h q1 q2 q3 q4 : Nat} {f1 f2 f3 f4 : Nat → Nat} {i : Nat} : xA5 h q1 q2 q3 q4 f1 f2 f3 f4 (i + 23) = f4 i := by
  show (if i + 18 < 6 then f1 (i + 18) else if i + 18 < 12 then f2 (i + 18 - 6) else if i + 18 < 18 then f3 (i + 18 - 12) else f4 (i + 18 - 18)) = f4 i
  rw [if_neg (by omega), if_neg (by omega), if_neg (by omega), Nat.add_sub_cancel]
theorem xSheetArr {D : va_G} {k : Nat → ClassId} {s : State} {cS : ClassId} (hK : va_K D vwCl (xTys k) s) (hK2 : va_K D vwCl (xTys k ++ [(cS, .object RX1)]) s) : cS = k 5 := by
  obtain ⟨_, _, _, _, _, h4⟩ := (hK.2 5 _ rfl).2
  obtain ⟨_, _, _, _, _, h5⟩ := (hK2.2 6 (cS, .object RX1) rfl).2
  exact Option.some.inj (h5.symm.trans h4)
theorem xT_made {k : Nat → ClassId} {h q1 q2 : Nat} {f : Nat → Nat} : wT k (xA3 h q1 q2 f) 0 0 (fun _ => 0) (fun _ _ => 0) = [((h, .inr (2, [.ref q1, .ref q2, .int 0, .int 0])) : Nat × va_E)] ++ ([((q1, .inl (k 3, 9, rfs f)) : Nat × va_E)] ++ ([((q2, .inl (k 0, (9, .inl (fun _ => 0)))) : Nat × va_E)] ++ (List.range 9).map (fun i => ((f i, .inl (k 0, (40, .inl (fun _ => 0)))) : Nat × va_E)))) := rfl
theorem xRf {D : va_G} {cl : List vw_C} {H : Heap} {q N : Nat} {c : ClassId} {f g : Nat → Nat} (e : ∀ i, i < N → f i = g i) (h : va_at D cl (q, .inl (c, N, rfs f)) H) : va_at D cl (q, .inl (c, N, rfs g)) H := by
  have h2 : H[q]? = some (vp_cell c (N, rfs f)) := h
  show H[q]? = some (vp_cell c (N, rfs g))
  rw [h2]
  exact congrArg some (xCellQ (fun i hi => congrArg some (e i hi)))
theorem xRep {D : va_G} {cl : List vw_C} {H : Heap} {X Y : va_W} {x y : Nat × va_E} (e : va_at D cl x H → va_at D cl y H) (h : va_P D cl (X ++ ([x] ++ Y)) H) : va_P D cl (X ++ ([y] ++ Y)) H := xP_iff.mpr fun z hz => by
  rcases List.mem_append.mp hz with h1 | h1
  · exact xP_iff.mp h z (List.mem_append_left _ h1)
  · rcases List.mem_append.mp h1 with h2 | h2
    · rw [List.mem_singleton] at h2
      subst h2
      exact e (xP_iff.mp h x (List.mem_append_right _ (List.mem_append_left _ (List.mem_singleton.mpr rfl))))
    · exact xP_iff.mp h z (List.mem_append_right _ (List.mem_append_right _ h2))
theorem xRepD {A : Nat → Prop} {X Y : va_W} {x y : Nat × va_E} (e : y.1 = x.1) (h : va_D A (X ++ ([x] ++ Y))) : va_D A (X ++ ([y] ++ Y)) := xD_adr (by simp [e]) h
theorem xRfO {D : va_G} {cl : List vw_C} {H : Heap} {q N : Nat} {c : ClassId} {f : Nat → Option Nat} {g : Nat → Nat} (e : ∀ i, i < N → f i = some (g i)) (h : va_at D cl (q, .inl (c, N, .inr (.inr (.inr (.inr f))))) H) : va_at D cl (q, .inl (c, N, rfs g)) H := by
  have h2 : H[q]? = some (vp_cell c (N, .inr (.inr (.inr (.inr f))))) := h
  show H[q]? = some (vp_cell c (N, rfs g))
  rw [h2]
  exact congrArg some (xCellQ (fun i hi => e i hi))
