/-! the ground that the walks stand on: which arrays are known, worlds cut and joined, calls -/
/-- the known array kinds: int, long, boolean, rows of ints, rows of longs, sheets -/
def xTys (k : Nat → ClassId) : List (ClassId × FieldType) := [(k 0, .int), (k 1, .long), (k 2, .boolean), (k 3, .array .int), (k 4, .array .long), (k 5, .object RX1)]
def xNest (U : State) : Prop := va_Nw (.methodLinkNest RX0 40 yX4_isWithin "GrowingCorners") U ∧ va_Nw (.methodLinkNest RX1 28 yX4_isWeight "GrowingCorners") U ∧ va_Nw (.methodLinkNest RX2 41 yX4_isWithin "GrowingCorners") U
def xG (D : va_G) (k : Nat → ClassId) (U : State) : Prop := va_K D vwCl (xTys k) U ∧ xNest U
theorem xNest.warm {s U : State} (hW : s.WarmedH U.vm) (h : xNest s) : xNest U := ⟨va_Nw.warmM hW h.1, va_Nw.warmM hW h.2.1, va_Nw.warmM hW h.2.2⟩
theorem xNest.same {u U : State} (e : u.vm = U.vm) (h : xNest u) : xNest U := ⟨va_Nw.same rfl e h.1, va_Nw.same rfl e h.2.1, va_Nw.same rfl e h.2.2⟩
theorem xG.warm {D : va_G} {k : Nat → ClassId} {s U : State} (hW : s.WarmedH U.vm) (h : xG D k s) : xG D k U := ⟨va_K.moved hW.alike h.1, h.2.warm hW⟩
theorem xG.calling {D : va_G} {k : Nat → ClassId} {U : State} {g : JFrame} {mk : MethodId} {a : Array Value} (h : xG D k U) : xG D k (U.calling g mk a) := ⟨va_K.moved (u := U) (U := U.calling g mk a) (Vm.Alike.refl U.vm) h.1, xNest.same (u := U) (U := U.calling g mk a) rfl h.2⟩
/-- the addresses of a world -/
def xIn (w : va_W) : Nat → Prop := fun q => q ∈ w.map Prod.fst
theorem xP_iff {D : va_G} {cl : List vw_C} {w : va_W} {H : Heap} : va_P D cl w H ↔ ∀ x ∈ w, va_at D cl x H :=
  ⟨fun h x hx => by obtain ⟨i, hi⟩ := List.getElem?_of_mem hx; exact h i x hi, fun h k q hk => h q (List.mem_of_getElem? hk)⟩
theorem xD_iff {A : Nat → Prop} {w : va_W} : va_D A w ↔ (w.map Prod.fst).Nodup ∧ ∀ x ∈ w, A x.1 := by
  unfold List.Nodup
  rw [List.pairwise_iff_getElem]
  constructor
  · intro h
    refine ⟨fun i j hi hj hij e => ?_, fun x hx => by obtain ⟨i, hi⟩ := List.getElem?_of_mem hx; exact h.2 i x hi⟩
    rw [List.length_map] at hi hj
    rw [List.getElem_map, List.getElem_map] at e
    have := h.1 i j _ _ (List.getElem?_eq_getElem hi) (List.getElem?_eq_getElem hj) e
    omega
  · rintro ⟨h1, h2⟩
    refine ⟨fun i j p q hi hj e => ?_, fun k q hk => h2 q (List.mem_of_getElem? hk)⟩
    obtain ⟨li, ei⟩ := List.getElem?_eq_some_iff.mp hi
    obtain ⟨lj, ej⟩ := List.getElem?_eq_some_iff.mp hj
    rcases Nat.lt_trichotomy i j with q1 | q1 | q1
    · exact absurd (by rw [List.getElem_map, List.getElem_map, ei, ej]; exact e) (h1 i j (by rw [List.length_map]; exact li) (by rw [List.length_map]; exact lj) q1)
    · exact q1
    · exact absurd (by rw [List.getElem_map, List.getElem_map, ei, ej]; exact e.symm) (h1 j i (by rw [List.length_map]; exact lj) (by rw [List.length_map]; exact li) q1)
theorem xP_perm {D : va_G} {cl : List vw_C} {w w' : va_W} {H : Heap} (hp : w.Perm w') (h : va_P D cl w H) : va_P D cl w' H := xP_iff.mpr fun x hx => xP_iff.mp h x (hp.mem_iff.mpr hx)
theorem xD_perm {A : Nat → Prop} {w w' : va_W} (hp : w.Perm w') (h : va_D A w) : va_D A w' := by
  rw [xD_iff] at h ⊢
  exact ⟨(hp.map Prod.fst).nodup_iff.mp h.1, fun x hx => h.2 x (hp.mem_iff.mpr hx)⟩
theorem xD_adr {A : Nat → Prop} {w w' : va_W} (e : w'.map Prod.fst = w.map Prod.fst) (h : va_D A w) : va_D A w' := by
  rw [xD_iff] at h ⊢
  refine ⟨by rw [e]; exact h.1, fun x hx => ?_⟩
  have hm : x.1 ∈ w'.map Prod.fst := List.mem_map_of_mem hx
  rw [e] at hm
  obtain ⟨y, hy, e2⟩ := List.mem_map.mp hm
  rw [← e2]
  exact h.2 y hy
theorem xPermC {l1 l2 : va_W} (h : ∀ (_ : DecidableEq (Nat × va_E)) (a : Nat × va_E), l1.count a = l2.count a) : l1.Perm l2 := by
  letI hd : DecidableEq (Nat × va_E) := fun a b => Classical.propDecidable (a = b)
  exact List.perm_iff_count.mpr (fun a => h hd a)
/-- behind a call that had the cells w of w ++ r, makes none, and leaves w2 at the same addresses -/
theorem xJoin {D : va_G} {cl : List vw_C} {A : Nat → Prop} {ws w r w2 : va_W} {H H1 : Heap} (hP : va_P D cl ws H) (hD : va_D A ws) (hp : ws.Perm (w ++ r)) (ha : w2.map Prod.fst = w.map Prod.fst) (hk : ∀ q : Nat, q < H.size → ¬ xIn w q → H1[q]? = H[q]?) (h1 : va_P D cl w2 H1) : va_P D cl (w2 ++ r) H1 ∧ va_D A (w2 ++ r) := by
  have hP2 := xP_perm hp hP
  have hD2 := xD_perm hp hD
  refine ⟨xP_iff.mpr fun x hx => ?_, xD_adr (by rw [List.map_append, List.map_append, ha]) hD2⟩
  rcases List.mem_append.mp hx with h | h
  · exact xP_iff.mp h1 x h
  · have hx0 := xP_iff.mp hP2 x (List.mem_append_right _ h)
    refine hx0.kept (hk x.1 hx0.lt fun hi => ?_)
    rw [xD_iff, List.map_append, List.nodup_append] at hD2
    exact hD2.1.2.2 x.1 hi x.1 (List.mem_map_of_mem h) rfl
theorem xFree {A : Nat → Prop} {ws w r : va_W} (hD : va_D A ws) (hp : ws.Perm (w ++ r)) : ∀ q, xIn w q → A q := by
  intro q hq
  obtain ⟨y, hy, rfl⟩ := List.mem_map.mp hq
  exact (xD_iff.mp hD).2 y (hp.mem_iff.mpr (List.mem_append_left _ hy))
theorem xSub {D : va_G} {cl : List vw_C} {ws w r : va_W} {H : Heap} (hP : va_P D cl ws H) (hp : ws.Perm (w ++ r)) : va_P D cl w H := xP_iff.mpr fun x hx => xP_iff.mp (xP_perm hp hP) x (List.mem_append_left _ hx)
theorem xSubD {A : Nat → Prop} {ws w r : va_W} (hD : va_D A ws) (hp : ws.Perm (w ++ r)) : va_D (fun _ => True) w := by
  have h := xD_perm hp hD
  rw [xD_iff, List.map_append, List.nodup_append] at h
  exact xD_iff.mpr ⟨h.1.1, fun _ _ => trivial⟩
/-- what a method may take for given: the cells w, at what they hold -/
def xPre (D : va_G) (k : Nat → ClassId) (av : List Value) (w : va_W) : Array Value → State → Prop := va_Pc av (fun U => va_P D vwCl w U.heap ∧ xG D k U ∧ va_D (fun _ => True) w)
/-- contracts of methods that make nothing: int, long, nothing -/
def ctI (l : Launch) (y : MethodName) (ws : List Cond) (rm : Room) (D : va_G) (k : Nat → ClassId) (av : List Value) (w : va_W) {S : Type} (w2 : S → va_W) (post : Int32 → S → Prop) : Prop := Met l y ws rm (xPre D k av w) (va_Qi post (fun u t => va_P D vwCl (w2 u) t.heap) (xIn w)) 0 0 (xIn w)
def ctL (l : Launch) (y : MethodName) (ws : List Cond) (rm : Room) (D : va_G) (k : Nat → ClassId) (av : List Value) (w : va_W) {S : Type} (w2 : S → va_W) (post : Int64 → S → Prop) : Prop := Met l y ws rm (xPre D k av w) (va_Ql post (fun u t => va_P D vwCl (w2 u) t.heap) (xIn w)) 0 0 (xIn w)
def ctV (l : Launch) (y : MethodName) (ws : List Cond) (rm : Room) (D : va_G) (k : Nat → ClassId) (av : List Value) (w : va_W) {S : Type} (w2 : S → va_W) (post : S → Prop) : Prop := Met l y ws rm (xPre D k av w) (va_Qv post (fun u t => va_P D vwCl (w2 u) t.heap) (xIn w)) 0 0 (xIn w)
def ctR (l : Launch) (y : MethodName) (ws : List Cond) (rm : Room) (D : va_G) (k : Nat → ClassId) (av : List Value) (w : va_W) (post : Nat → Prop) : Prop := Met l y ws rm (xPre D k av w) (va_Qr (S := Unit) (fun _ => True) (fun _ b t => post b ∧ va_P D vwCl w t.heap) (xIn w)) 0 0 (xIn w)
theorem xBlind {D : va_G} {k : Nat → ClassId} {av : List Value} {w : va_W} : FrameBlind (xPre D k av w) := fun _ _ _ _ h => ⟨h.1, h.2.1, h.2.2.1.calling, h.2.2.2⟩
theorem vp_lt {i : Int32} {n : Nat} (h : vp_in i n) : i.toNatClampNeg < n := Nat.not_le.mp fun q => h (Or.inr q)
section XC
variable {p : Program} {l : Launch} {e : Env} {R : Room} {s : State} {m : MethodId} {args : Array Value} {below : List Frame} {meth : Method} {c : Code} {H : Heap} {locs : List Loc} {cells slots : Nat} {Q : State → Prop}
variable {cc : ByteArray} {pc : Nat} {ls : Array Slot} {rest st0 : List Value} {D : va_G} {A : Nat → Prop} {a : Nat} {H0 : Heap} {k : Nat → ClassId} {ws w r : va_W}
variable {y : MethodName} {rm : Room} {av : List Value} {cw : List Cond}
/-- where a call starts: the callee's cells are cut out -/
theorem xPreS (hG : xG D k s) (hP : va_P D vwCl ws H) (hD : va_D A ws) (hp : ws.Perm (w ++ r)) : PreS s H (xPre D k av w) av :=
  ⟨xBlind, fun U hU hW => ⟨rfl, by rw [hU]; exact xSub hP hp, hG.warm hW, xSubD hD hp⟩⟩
theorem xPreV {C : String} {b : Addr} {As : List Value} {ci i : Nat} {T : u_T} {N : Nat} {fs : List Value} (hG : xG D k s) (hP : va_P D vwCl ws H) (hD : va_D A ws) (hp : ws.Perm (w ++ r)) (hc : vwCl[ci]? = some (C, T, N)) (he : w[i]? = some (b, .inr (ci, fs))) : PreV s H C b (xPre D k (.ref b :: As) w) As :=
  ⟨xBlind, va_recv hG.1 (xSub hP hp) hc he, fun U hU hW => ⟨rfl, by rw [hU]; exact xSub hP hp, hG.warm hW, xSubD hD hp⟩⟩
theorem xCallI {S : Type} {post : Int32 → S → Prop} {w2 : S → va_W} {ar : Array Value} (hr : va_Run p l e R s m args below meth c H locs cells slots 0 0 (F0 m pc ls st0) rest (va_Qi post (fun u t => va_P D vwCl (w2 u) t.heap) (xIn w) ar) (xIn w)) (hP : va_P D vwCl ws H) (hD : va_D A ws) (hS : va_S A H0 H locs) (hp : ws.Perm (w ++ r)) (ha : ∀ u, (w2 u).map Prod.fst = w.map Prod.fst)
    (kk : ∀ (r0 : Int32) (u : S) (H1 : Heap) (locs1 : List Loc), post r0 u → va_P D vwCl (w2 u ++ r) H1 → va_D A (w2 u ++ r) → va_S A H0 H1 locs1 → W p l e R s m args below meth c H1 locs1 cells slots Q (F0 m (pc + 3) ls (.int r0 :: rest))) : W p l e R s m args below meth c H locs cells slots Q (F0 m pc ls st0) := by
  refine va_calli hr hS (fun q _ h => xFree hD hp q h) (xFree hD hp) (fun r0 u t H1 locs1 ht hvm hw hB hz1 hk1 hS1 => ?_)
  rw [ht] at hB
  obtain ⟨h1, h2⟩ := xJoin hP hD hp (ha u) hk1 hB
  exact kk r0 u H1 locs1 hw h1 h2 hS1
theorem xCallL {S : Type} {post : Int64 → S → Prop} {w2 : S → va_W} {ar : Array Value} (hr : va_Run p l e R s m args below meth c H locs cells slots 0 0 (F0 m pc ls st0) rest (va_Ql post (fun u t => va_P D vwCl (w2 u) t.heap) (xIn w) ar) (xIn w)) (hP : va_P D vwCl ws H) (hD : va_D A ws) (hS : va_S A H0 H locs) (hp : ws.Perm (w ++ r)) (ha : ∀ u, (w2 u).map Prod.fst = w.map Prod.fst)
    (kk : ∀ (r0 : Int64) (u : S) (H1 : Heap) (locs1 : List Loc), post r0 u → va_P D vwCl (w2 u ++ r) H1 → va_D A (w2 u ++ r) → va_S A H0 H1 locs1 → W p l e R s m args below meth c H1 locs1 cells slots Q (F0 m (pc + 3) ls (.long r0 :: rest))) : W p l e R s m args below meth c H locs cells slots Q (F0 m pc ls st0) := by
  refine va_calll hr hS (fun q _ h => xFree hD hp q h) (xFree hD hp) (fun r0 u t H1 locs1 ht hvm hw hB hz1 hk1 hS1 => ?_)
  rw [ht] at hB
  obtain ⟨h1, h2⟩ := xJoin hP hD hp (ha u) hk1 hB
  exact kk r0 u H1 locs1 hw h1 h2 hS1
theorem xCallV {S : Type} {post : S → Prop} {w2 : S → va_W} {ar : Array Value} (hr : va_Run p l e R s m args below meth c H locs cells slots 0 0 (F0 m pc ls st0) rest (va_Qv post (fun u t => va_P D vwCl (w2 u) t.heap) (xIn w) ar) (xIn w)) (hP : va_P D vwCl ws H) (hD : va_D A ws) (hS : va_S A H0 H locs) (hp : ws.Perm (w ++ r)) (ha : ∀ u, (w2 u).map Prod.fst = w.map Prod.fst)
    (kk : ∀ (u : S) (H1 : Heap) (locs1 : List Loc), post u → va_P D vwCl (w2 u ++ r) H1 → va_D A (w2 u ++ r) → va_S A H0 H1 locs1 → W p l e R s m args below meth c H1 locs1 cells slots Q (F0 m (pc + 3) ls rest)) : W p l e R s m args below meth c H locs cells slots Q (F0 m pc ls st0) := by
  refine va_callv hr hS (fun q _ h => xFree hD hp q h) (xFree hD hp) (fun u t H1 locs1 ht hvm hw hB hz1 hk1 hS1 => ?_)
  rw [ht] at hB
  obtain ⟨h1, h2⟩ := xJoin hP hD hp (ha u) hk1 hB
  exact kk u H1 locs1 hw h1 h2 hS1
theorem xCallR {post : Nat → Prop} {ar : Array Value} (hr : va_Run p l e R s m args below meth c H locs cells slots 0 0 (F0 m pc ls st0) rest (va_Qr (S := Unit) (fun _ => True) (fun _ b t => post b ∧ va_P D vwCl w t.heap) (xIn w) ar) (xIn w)) (hP : va_P D vwCl ws H) (hD : va_D A ws) (hS : va_S A H0 H locs) (hp : ws.Perm (w ++ r))
    (kk : ∀ (b : Nat) (H1 : Heap) (locs1 : List Loc), post b → va_P D vwCl (w ++ r) H1 → va_D A (w ++ r) → va_S A H0 H1 locs1 → W p l e R s m args below meth c H1 locs1 cells slots Q (F0 m (pc + 3) ls (.ref b :: rest))) : W p l e R s m args below meth c H locs cells slots Q (F0 m pc ls st0) := by
  refine va_callr hr hS (fun q _ h => xFree hD hp q h) (xFree hD hp) (fun u b t H1 locs1 ht hvm hw hB hz1 hk1 hS1 => ?_)
  obtain ⟨hB0, hB⟩ := hB
  rw [ht] at hB
  obtain ⟨h1, h2⟩ := xJoin hP hD hp rfl hk1 hB
  exact kk b H1 locs1 hB0 h1 h2 hS1
/-- a row out of an array of rows -/
theorem xAald (hexec : p.tables.exec = Jvm.exec) (hb : c.code = cc) (hK : va_K D vwCl (xTys k) s) (hP : va_P D vwCl ws H) (q0 t0 : Nat) {cA : ClassId} {ty : FieldType} {n : Nat} {f : Nat → Nat} (ha : ws[q0]? = some (a, .inl (cA, n, .inr (.inr (.inr (.inr (fun i => some (f i)))))))) (ht : (xTys k)[t0]? = some (cA, .array ty)) {i : Int32} (hin : vp_in i n) (hdg : decode cc pc = .ok (.aaload, 1))
    (kk : W p l e R s m args below meth c H locs cells slots Q (F0 m (pc + 1) ls (.ref (f i.toNatClampNeg) :: rest))) : W p l e R s m args below meth c H locs cells slots Q (F0 m pc ls (.int i :: .ref a :: rest)) := by
  have hlt : i.toNatClampNeg < n := Nat.not_le.mp fun q => hin (Or.inr q)
  exact W.aald (v := va_rf (some (f i.toNatClampNeg))) (ty := .array ty) hexec hb (hP q0 _ ha) ((hK.2 t0 _ ht).1 n (fun j => va_rf (some (f j)))) rfl (fun q => by cases q) (by show ¬ (i < 0 ∨ (arrV _ _ _).slots.size ≤ _); rw [arrV_size]; exact hin) (by show (arrV _ _ _).slots[_]? = _; rw [arrV_read _ _ hlt]) rfl rfl hdg kk
/-- a sheet out of the sheets -/
theorem xAaldO (hexec : p.tables.exec = Jvm.exec) (hb : c.code = cc) (hK : va_K D vwCl (xTys k) s) (hP : va_P D vwCl ws H) (q0 t0 : Nat) {cA : ClassId} {C : String} {n : Nat} {f : Nat → Nat} (ha : ws[q0]? = some (a, .inl (cA, n, .inr (.inr (.inr (.inr (fun i => some (f i)))))))) (ht : (xTys k)[t0]? = some (cA, .object C)) {i : Int32} (hin : vp_in i n) (hdg : decode cc pc = .ok (.aaload, 1))
    (kk : W p l e R s m args below meth c H locs cells slots Q (F0 m (pc + 1) ls (.ref (f i.toNatClampNeg) :: rest))) : W p l e R s m args below meth c H locs cells slots Q (F0 m pc ls (.int i :: .ref a :: rest)) := va_aldq hexec hb hK hP q0 t0 ha ht hin hdg kk
end XC
/-- what a walk of one method stands on -/
theorem xHp {D : va_G} {cl : List vw_C} {w : va_W} {H : Heap} {t : State} (ht : t.heap = H) (h : va_P D cl w H) : va_P D cl w t.heap := by rw [ht]; exact h
abbrev xPerm (w w2 : va_W) : Prop := List.Perm w w2
theorem xPermNil {w : va_W} : w.Perm (w ++ []) := by rw [List.append_nil]
theorem xNilP {D : va_G} {cl : List vw_C} {w : va_W} {H : Heap} (h : va_P D cl (w ++ []) H) : va_P D cl w H := by rwa [List.append_nil] at h
theorem xNilD {A : Nat → Prop} {w : va_W} (h : va_D A (w ++ [])) : va_D A w := by rwa [List.append_nil] at h
theorem xSelf {B : Nat → Prop} {w : va_W} (h : va_D B w) : va_D (xIn w) w := xD_iff.mpr ⟨(xD_iff.mp h).1, fun x hx => List.mem_map_of_mem hx⟩
theorem xAdr2 {a a2 b b2 : va_W} (h1 : a.map Prod.fst = a2.map Prod.fst) (h2 : b.map Prod.fst = b2.map Prod.fst) : (a ++ b).map Prod.fst = (a2 ++ b2).map Prod.fst := by rw [List.map_append, List.map_append, h1, h2]
def xM (p : Program) (s : State) (m : MethodId) (args : Array Value) (meth : Method) (c : Code) (cc : ByteArray) (nL : Nat) (own : String) (ret : Option FieldType) (ws : List Cond) : Prop := p.tables.exec = Jvm.exec ∧ c.code = cc ∧ meth.sig.returnType = ret ∧ (∀ w ∈ ws, w.before args s = true) ∧ s.vm.findClass own = some m.cls ∧ meth.locks = false ∧ c.maxLocals = nL
/-- a row of rows: one place of one row -/
def up2 {α : Type} (f : Nat → Nat → α) (i : Nat) (g : Nat → α) : Nat → Nat → α := fun a => if a = i then g else f a
theorem xRow_at {α : Type} (pre : List α) (n i : Nat) (g : Nat → α) (h : i < n) : (pre ++ (List.range n).map g)[i + pre.length]? = some (g i) := by
  rw [List.getElem?_append_right (by omega)]
  simp [h]
theorem xRow_set {α : Type} (n i : Nat) (g : Nat → α) (v : α) (h : i < n) : ((List.range n).map g).set i v = (List.range n).map (fun j => if j = i then v else g j) := by
  apply List.ext_getElem?
  intro j
  rw [List.getElem?_set]
  by_cases hj : j < n
  · by_cases e : i = j
    · subst e
      simp [hj]
    · simp [hj, e, Ne.symm e]
  · by_cases e : i = j
    · omega
    · simp [hj, e]
