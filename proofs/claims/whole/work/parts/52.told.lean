/-! whether what is laid is as told: the class -/
def STC (l : Nat → Nat) : Prop := ∀ r, r + 1 < 9 → l (r + 1) ≤ l r
def CC (k : Nat) (e : Nat → Nat → Nat) (r c : Nat) : Prop := (0 < c → e r (c - 1) + k ≤ e r c) ∧ (0 < r → e (r - 1) c < e r c)
def RS (k : Nat) (l : Nat → Nat) (e : Nat → Nat → Nat) : Prop := ∀ r, r < 9 → ∀ c, c < l r → CC k e r c
def BL (l : Nat → Nat) (e : Nat → Nat → Nat) : Prop := ∀ r, r < 9 → ∀ c, c < l r → e r c < 10
def EO (l : Nat → Nat) (e : Nat → Nat → Nat) : Prop := ∀ b, (∃ r c, r < 9 ∧ c < l r ∧ e r c = b + 1) ↔ b < sm l
theorem x_shape {l m : Nat → Nat} {L M : Nat → Int32} (hL : ∀ r, r < 9 → L r = nI (l r)) (hM : ∀ r, r < 9 → M r = nI (m r)) (hl : ∀ r, r < 9 → l r ≤ 40) (hm : ∀ r, r < 9 → m r ≤ 40) {post : Int32 → Prop} (h1 : (∀ r, r < 9 → l r = m r) → post 1) (h0 : ¬ (∀ r, r < 9 → l r = m r) → post 0) : p_X2_hasShapeOf L M post := by
  unfold p_X2_hasShapeOf
  refine pk_loop (fun u r (_ : Unit) => p_X2_hasShapeOf_2 L M post u (nI r)) (fun r _ => ∀ i, i < r → l i = m i) 9 0 () (by omega) (fun i hi => absurd hi (Nat.not_lt_zero i)) (fun u _ hs => ?_) (fun u r _ hr hs ih => ?_)
  · show p_X2_hasShapeOf_2 _ _ _ _ _
    unfold p_X2_hasShapeOf_2
    exact pk_le 9 9 (fun _ => h1 hs) (fun q => by omega)
  · show p_X2_hasShapeOf_2 _ _ _ _ _
    unfold p_X2_hasShapeOf_2
    have := hl r hr
    have := hm r hr
    refine pk_le 9 r (fun q => by omega) (fun _ => ⟨pk_in r 9 hr, x_len hr ?_⟩)
    rw [nI_clamp (by omega), hL r hr, hM r hr, nI_1]
    refine pk_eq (l r) (m r) (fun q => ih () (fun i hi => ?_)) (fun q => h0 (fun z => q (z r hr)))
    by_cases e : i = r
    · subst e; exact q
    · exact hs i (by omega)
theorem x_stair {l : Nat → Nat} {L : Nat → Int32} {n : Nat} (hL : ∀ r, r < 9 → L r = nI (l r)) (hl : ∀ r, r < 9 → l r ≤ 40) (hn : n ≤ 9) (hrn : ∀ i, i < 9 → (i < n ↔ 0 < l i)) {post : Int32 → Prop} (h1 : STC l → post 1) (h0 : ¬ STC l → post 0) : p_X2_isStaircase (nI n) L post := by
  unfold p_X2_isStaircase
  refine pk_loop (fun u r (_ : Unit) => p_X2_isStaircase_2 (nI n) L post u (nI r)) (fun r _ => 1 ≤ r ∧ ∀ i, i + 1 < r → l (i + 1) ≤ l i) (max n 1) 1 () (by omega) ⟨Nat.le_refl 1, fun i hi => by omega⟩ (fun u _ hs => ?_) (fun u r _ hr hs ih => ?_)
  · show p_X2_isStaircase_2 _ _ _ _ _
    unfold p_X2_isStaircase_2
    refine pk_le n (max n 1) (fun _ => h1 (fun r hr => ?_)) (fun q => by omega)
    rcases Nat.lt_or_ge (r + 1) n with q | q
    · exact hs.2 r (by omega)
    · have := hrn (r + 1) hr
      omega
  · show p_X2_isStaircase_2 _ _ _ _ _
    unfold p_X2_isStaircase_2
    obtain ⟨k, rfl⟩ : ∃ k, r = k + 1 := ⟨r - 1, by omega⟩
    have := hl (k + 1) (by omega)
    have := hl k (by omega)
    rw [nI_pred, nI_1, nI_clamp (by omega), nI_clamp (by omega), hL _ (show k + 1 < 9 by omega), hL k (by omega)]
    refine pk_le n (k + 1) (fun q => by omega) (fun _ => ⟨pk_in (k + 1) 9 (by omega), pk_in k 9 (by omega), pk_le (l (k + 1)) (l k) (fun q => ih () ⟨by omega, fun i hi => ?_⟩) (fun q => h0 (fun z => ?_))⟩)
    · by_cases e : i = k
      · subst e; exact q
      · exact hs.2 i (by omega)
    · have := z k (by omega); omega
theorem x_rises {l : Nat → Nat} {e : Nat → Nat → Nat} {L : Nat → Int32} {N : Nat → Nat → Int32} {n k : Nat} (hk : k ≤ 1) (hL : ∀ r, r < 9 → L r = nI (l r)) (hl : ∀ r, r < 9 → l r ≤ 40) (hN : ∀ r, r < 9 → ∀ c, c < l r → N r c = nI (e r c)) (he : ∀ r, r < 9 → ∀ c, c < l r → e r c ≤ 40) (hst : STC l) (hn : n ≤ 9) (hrn : ∀ i, i < 9 → (i < n ↔ 0 < l i)) {post : Int32 → Prop} (h1 : RS k l e → post 1) (h0 : ¬ RS k l e → post 0) : p_X2_rises (nI n) L N (nI k) post := by
  unfold p_X2_rises
  refine pk_loop (fun u r (_ : Unit) => p_X2_rises_2 (nI n) L N (nI k) post u (nI r)) (fun r _ => ∀ i, i < r → ∀ c, c < l i → CC k e i c) n 0 () (by omega) (fun i hi => absurd hi (Nat.not_lt_zero i)) (fun u _ hs => ?_) (fun u r _ hr hs ih => ?_)
  · show p_X2_rises_2 _ _ _ _ _ _ _
    unfold p_X2_rises_2
    refine pk_le n n (fun _ => h1 (fun r hr c hc => ?_)) (fun q => by omega)
    have := hrn r hr
    exact hs r (by omega) c hc
  · show p_X2_rises_2 _ _ _ _ _ _ _
    unfold p_X2_rises_2
    refine pk_le n r (fun q => by omega) (fun _ => ?_)
    have hlr := hl r (by omega)
    have hr9 : vp_in (nI r) 9 := pk_in r 9 (by omega)
    refine pk_loop (fun v c (_ : Unit) => p_X2_rises_12 (nI n) L N (nI k) post _ v (nI r) (nI c)) (fun c _ => ∀ d, d < c → CC k e r d) (l r) 0 () (by omega) (fun d hd => absurd hd (Nat.not_lt_zero d)) (fun v _ hc => ?_) (fun v c _ hc hcs ih2 => ?_)
    · show p_X2_rises_12 _ _ _ _ _ _ _ _ _
      unfold p_X2_rises_12
      rw [nI_clamp (by omega), hL r (by omega), nI_1]
      refine ⟨hr9, pk_le (l r) (l r) (fun _ => ih () (fun i hi c hc2 => ?_)) (fun q => by omega)⟩
      by_cases z : i = r
      · subst z; exact hc c hc2
      · exact hs i (by omega) c hc2
    · show p_X2_rises_12 _ _ _ _ _ _ _ _ _
      have hec := he r (by omega) c hc
      have hNc := hN r (by omega) c hc
      have go : (0 < c → e r (c - 1) + k ≤ e r c) → p_X2_rises_51 (nI n) L N (nI k) post (fun x2 => p_X2_rises_2 (nI n) L N (nI k) post u x2) (fun x2 x3 => p_X2_rises_12 (nI n) L N (nI k) post (fun x2 => p_X2_rises_2 (nI n) L N (nI k) post u x2) v x2 x3) (nI r) (nI c) := by
        intro hrow
        unfold p_X2_rises_51 p_X2_rises_76
        have nxt : (0 < r → e (r - 1) c < e r c) → p_X2_rises_12 (nI n) L N (nI k) post (fun x2 => p_X2_rises_2 (nI n) L N (nI k) post u x2) v (nI r) (nI c + 1) := by
          intro hcol
          rw [nI_1]
          refine ih2 () (fun d hd => ?_)
          by_cases z : d = c
          · subst z; exact ⟨hrow, hcol⟩
          · exact hcs d (by omega)
        refine pk_le r 0 (fun q => nxt (fun z => by omega)) (fun q => ⟨hr9, pk_in c 40 (by omega), ?_⟩)
        obtain ⟨i, rfl⟩ : ∃ i, r = i + 1 := ⟨r - 1, by omega⟩
        have hsi := hst i (by omega)
        have hli := hl i (by omega)
        have hei := he i (by omega) c (by omega)
        rw [nI_pred, nI_clamp (show i + 1 < 2 ^ 31 by omega), nI_clamp (show c < 2 ^ 31 by omega), hNc]
        refine x_at (by omega) (hL i (by omega)) (by omega) (by omega) ?_
        rw [hN i (by omega) c (by omega)]
        refine pk_lt (e i c) (e (i + 1) c) (fun q2 => nxt (fun _ => q2)) (fun q2 => h0 (fun z => ?_))
        have := (z (i + 1) (by omega) c hc).2 (by omega)
        rw [Nat.add_sub_cancel] at this
        omega
      unfold p_X2_rises_12
      rw [nI_clamp (show r < 2 ^ 31 by omega), hL r (by omega), nI_clamp (show c < 2 ^ 31 by omega), hNc]
      refine ⟨hr9, pk_le (l r) c (fun q => by omega) (fun _ => pk_le c 0 (fun q => go (fun z => by omega)) (fun q => ⟨hr9, pk_in c 40 (by omega), hr9, ?_⟩))⟩
      have hec1 := he r (by omega) (c - 1) (by omega)
      rw [nI_m1 (by omega), nI_clamp (by omega), hN r (by omega) (c - 1) (by omega), nI_add]
      refine ⟨pk_in (c - 1) 40 (by omega), pk_le (e r (c - 1) + k) (e r c) (fun q2 => go (fun _ => q2)) (fun q2 => h0 (fun z => ?_))⟩
      have := (z r (by omega) c hc).1 q
      omega
theorem x_below {l : Nat → Nat} {e : Nat → Nat → Nat} {L : Nat → Int32} {N : Nat → Nat → Int32} {n : Nat} (hL : ∀ r, r < 9 → L r = nI (l r)) (hl : ∀ r, r < 9 → l r ≤ 40) (hN : ∀ r, r < 9 → ∀ c, c < l r → N r c = nI (e r c)) (he : ∀ r, r < 9 → ∀ c, c < l r → e r c ≤ 40) (hn : n ≤ 9) (hrn : ∀ i, i < 9 → (i < n ↔ 0 < l i)) {post : Int32 → Prop} (h1 : BL l e → post 1) (h0 : ¬ BL l e → post 0) : p_X2_isBelow (nI n) L N 10 post := by
  unfold p_X2_isBelow
  refine pk_loop (fun u r (_ : Unit) => p_X2_isBelow_2 (nI n) L N 10 post u (nI r)) (fun r _ => ∀ i, i < r → ∀ c, c < l i → e i c < 10) n 0 () (by omega) (fun i hi => absurd hi (Nat.not_lt_zero i)) (fun u _ hs => ?_) (fun u r _ hr hs ih => ?_)
  · show p_X2_isBelow_2 _ _ _ _ _ _ _
    unfold p_X2_isBelow_2
    refine pk_le n n (fun _ => h1 (fun r hr c hc => ?_)) (fun q => by omega)
    have := hrn r hr
    exact hs r (by omega) c hc
  · show p_X2_isBelow_2 _ _ _ _ _ _ _
    unfold p_X2_isBelow_2
    refine pk_le n r (fun q => by omega) (fun _ => ?_)
    have hlr := hl r (by omega)
    have hr9 : vp_in (nI r) 9 := pk_in r 9 (by omega)
    refine pk_loop (fun v c (_ : Unit) => p_X2_isBelow_12 (nI n) L N 10 post _ v (nI r) (nI c)) (fun c _ => ∀ d, d < c → e r d < 10) (l r) 0 () (by omega) (fun d hd => absurd hd (Nat.not_lt_zero d)) (fun v _ hc => ?_) (fun v c _ hc hcs ih2 => ?_)
    · show p_X2_isBelow_12 _ _ _ _ _ _ _ _ _
      unfold p_X2_isBelow_12
      rw [nI_clamp (by omega), hL r (by omega), nI_1]
      refine ⟨hr9, pk_le (l r) (l r) (fun _ => ih () (fun i hi c hc2 => ?_)) (fun q => by omega)⟩
      by_cases z : i = r
      · subst z; exact hc c hc2
      · exact hs i (by omega) c hc2
    · show p_X2_isBelow_12 _ _ _ _ _ _ _ _ _
      unfold p_X2_isBelow_12
      have hec := he r (by omega) c hc
      rw [nI_clamp (show r < 2 ^ 31 by omega), hL r (by omega), nI_clamp (show c < 2 ^ 31 by omega), hN r (by omega) c hc, nI_1, nI_1]
      refine ⟨hr9, pk_le (l r) c (fun q => by omega) (fun _ => ⟨hr9, pk_in c 40 (by omega), pk_lt (e r c) 10 (fun q => ih2 () (fun d hd => ?_)) (fun q => h0 (fun z => ?_))⟩)⟩
      · by_cases z : d = c
        · subst z; exact q
        · exact hcs d (by omega)
      · have := z r (by omega) c hc; omega
theorem bit1 : ∀ v, v < 40 → (1 : Int64) <<< ((nI (v + 1) - 1).toInt64 &&& 63) = Int64.ofNat (2 ^ v) := by decide +kernel
theorem bitP : ∀ p, p < 41 → ((1 : Int64) <<< ((nI p).toInt64 &&& 63)) - 1 = Int64.ofNat (2 ^ p - 1) := by decide +kernel
theorem o64 (a b : Nat) : Int64.ofNat a ||| Int64.ofNat b = Int64.ofNat (a ||| b) := by
  apply Int64.toBitVec_inj.1
  show BitVec.ofNat 64 a ||| BitVec.ofNat 64 b = BitVec.ofNat 64 (a ||| b)
  apply BitVec.eq_of_getLsbD_eq
  intro i hi
  simp [hi]
theorem of64 {a b : Nat} (ha : a < 2 ^ 40) (hb : b < 2 ^ 40) (h : Int64.ofNat a = Int64.ofNat b) : a = b := by
  have e := congrArg (fun x : Int64 => x.toBitVec.toNat) h
  change (BitVec.ofNat 64 a).toNat = (BitVec.ofNat 64 b).toNat at e
  rw [BitVec.toNat_ofNat, BitVec.toNat_ofNat, Nat.mod_eq_of_lt (by omega), Nat.mod_eq_of_lt (by omega)] at e
  exact e
theorem cmp0 {a b : Int64} {A B : Prop} (f : a = b → A) (g : a ≠ b → B) : (lg_cmp a b = 0 → A) ∧ (¬ lg_cmp a b = 0 → B) := by
  by_cases h : a = b
  · refine ⟨fun _ => f h, fun q => absurd ?_ q⟩
    subst h; simp [lg_cmp]
  · refine ⟨fun q => absurd q ?_, fun _ => g h⟩
    unfold lg_cmp
    by_cases h1 : b < a
    · simp only [h1, if_true]; decide
    · simp only [h1, h, if_false]; decide
theorem x_each {l : Nat → Nat} {e : Nat → Nat → Nat} {L : Nat → Int32} {N : Nat → Nat → Int32} {n : Nat} (hL : ∀ r, r < 9 → L r = nI (l r)) (hl : ∀ r, r < 9 → l r ≤ 40) (hs40 : sm l ≤ 40) (hN : ∀ r, r < 9 → ∀ c, c < l r → N r c = nI (e r c)) (he : ∀ r, r < 9 → ∀ c, c < l r → 1 ≤ e r c ∧ e r c ≤ 40) (hn : n ≤ 9) (hrn : ∀ i, i < 9 → (i < n ↔ 0 < l i)) {post : Int32 → Prop} (h1 : EO l e → post 1) (h0 : ¬ EO l e → post 0) : p_X2_hasEachOnce (nI n) (nI (sm l)) L N post := by
  unfold p_X2_hasEachOnce
  refine pk_loop (fun u r x => p_X2_hasEachOnce_4 (nI n) (nI (sm l)) L N post u x (nI r)) (fun r x => ∃ B : Nat, B < 2 ^ 40 ∧ x = Int64.ofNat B ∧ ∀ b, B.testBit b = true ↔ ∃ i c, i < r ∧ c < l i ∧ e i c = b + 1) n 0 0 (by omega) ⟨0, by decide, rfl, fun b => by rw [Nat.zero_testBit]; exact ⟨fun q => (Bool.false_ne_true q).elim, fun ⟨i, c, hi, _⟩ => absurd hi (Nat.not_lt_zero i)⟩⟩ (fun u x hx => ?_) (fun u r x hr hx ih => ?_)
  · show p_X2_hasEachOnce_4 _ _ _ _ _ _ _ _
    unfold p_X2_hasEachOnce_4
    obtain ⟨B, hB, rfl, hb⟩ := hx
    have hp : 2 ^ sm l - 1 < 2 ^ 40 := by
      have : 2 ^ sm l ≤ 2 ^ 40 := Nat.pow_le_pow_right (by omega) hs40
      have : 0 < 2 ^ sm l := Nat.two_pow_pos _
      omega
    have hiff : EO l e ↔ B = 2 ^ sm l - 1 := by
      have hcell : ∀ b, (∃ r c, r < 9 ∧ c < l r ∧ e r c = b + 1) ↔ B.testBit b = true := fun b => by
        rw [hb b]
        exact ⟨fun ⟨r, c, hr, hc, he⟩ => ⟨r, c, (hrn r hr).mpr (by omega), hc, he⟩, fun ⟨r, c, hr, hc, he⟩ => ⟨r, c, by omega, hc, he⟩⟩
      constructor
      · intro q
        apply Nat.eq_of_testBit_eq
        intro b
        rw [Nat.testBit_two_pow_sub_one]
        have := (hcell b).symm.trans (q b)
        by_cases z : b < sm l
        · rw [this.mpr z, decide_eq_true z]
        · rw [decide_eq_false z]
          exact Bool.eq_false_iff.mpr (fun y => z (this.mp y))
      · intro q b
        rw [hcell b, q, Nat.testBit_two_pow_sub_one]
        exact decide_eq_true_iff
    rw [bitP (sm l) (by omega)]
    exact pk_le n n (fun _ => cmp0 (fun q => h1 (hiff.mpr (of64 hB hp q))) (fun q => h0 (fun z => q (by rw [hiff.mp z])))) (fun q => by omega)
  · show p_X2_hasEachOnce_4 _ _ _ _ _ _ _ _
    unfold p_X2_hasEachOnce_4
    refine pk_le n r (fun q => by omega) (fun _ => ?_)
    have hlr := hl r (by omega)
    have hr9 : vp_in (nI r) 9 := pk_in r 9 (by omega)
    refine pk_loop (fun v c x => p_X2_hasEachOnce_15 (nI n) (nI (sm l)) L N post _ v x (nI r) (nI c)) (fun c x => ∃ B : Nat, B < 2 ^ 40 ∧ x = Int64.ofNat B ∧ ∀ b, B.testBit b = true ↔ ∃ i d, d < l i ∧ (i < r ∨ (i = r ∧ d < c)) ∧ e i d = b + 1) (l r) 0 x (by omega) ?_ (fun v x' hx' => ?_) (fun v c x' hc hx' ih2 => ?_)
    · obtain ⟨B, hB, e1, hb⟩ := hx
      refine ⟨B, hB, e1, fun b => (hb b).trans ⟨fun ⟨i, c, hi, hc, he⟩ => ⟨i, c, hc, Or.inl hi, he⟩, fun ⟨i, d, hd, hid, he⟩ => ⟨i, d, by omega, hd, he⟩⟩⟩
    · show p_X2_hasEachOnce_15 _ _ _ _ _ _ _ _ _ _
      unfold p_X2_hasEachOnce_15
      rw [nI_clamp (by omega), hL r (by omega), nI_1]
      refine ⟨hr9, pk_le (l r) (l r) (fun _ => ih x' ?_) (fun q => by omega)⟩
      obtain ⟨B, hB, e1, hb⟩ := hx'
      refine ⟨B, hB, e1, fun b => (hb b).trans ⟨fun ⟨i, d, hd, hid, he⟩ => ⟨i, d, by omega, hd, he⟩, fun ⟨i, c, hi, hc, he⟩ => ⟨i, c, hc, ?_, he⟩⟩⟩
      rcases Nat.lt_or_ge i r with z | z
      · exact Or.inl z
      · have : i = r := by omega
        subst this; exact Or.inr ⟨rfl, hc⟩
    · show p_X2_hasEachOnce_15 _ _ _ _ _ _ _ _ _ _
      unfold p_X2_hasEachOnce_15
      obtain ⟨B, hB, rfl, hb⟩ := hx'
      obtain ⟨e1, e2⟩ := he r (by omega) c hc
      obtain ⟨v1, hv1⟩ : ∃ v1, e r c = v1 + 1 := ⟨e r c - 1, by omega⟩
      rw [nI_clamp (show r < 2 ^ 31 by omega), hL r (by omega), nI_clamp (show c < 2 ^ 31 by omega), hN r (by omega) c hc, nI_1, nI_1, hv1, bit1 v1 (by omega), o64]
      refine ⟨hr9, pk_le (l r) c (fun q => by omega) (fun _ => ⟨hr9, pk_in c 40 (by omega), ih2 _ ⟨B ||| 2 ^ v1, Nat.or_lt_two_pow hB (Nat.pow_lt_pow_right (by omega) (by omega)), rfl, fun b => ?_⟩⟩)⟩
      rw [Nat.testBit_or, Bool.or_eq_true, hb b, Nat.testBit_two_pow, decide_eq_true_iff]
      constructor
      · rintro (⟨i, d, hd, hid, he⟩ | z)
        · exact ⟨i, d, hd, by omega, he⟩
        · exact ⟨r, c, hc, Or.inr ⟨rfl, by omega⟩, by omega⟩
      · rintro ⟨i, d, hd, hid, he⟩
        by_cases z : i = r ∧ d = c
        · obtain ⟨rfl, rfl⟩ := z
          exact Or.inr (by omega)
        · exact Or.inl ⟨i, d, hd, by omega, he⟩
