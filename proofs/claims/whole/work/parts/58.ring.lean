/-! ===== findRing(): all that a ring of free cells can reach ===== -/
theorem hn_upd {p q : Nat → Bool} {k : Nat} (hp : p k = false) (hq : q k = true) (h : ∀ i, i ≠ k → q i = p i) : ∀ {n : Nat}, hn q n = hn p n + (if k < n then 1 else 0)
  | 0 => by rw [if_neg (Nat.not_lt_zero _)]; rfl
  | n + 1 => by
    have ih := hn_upd hp hq h (n := n)
    show hn q n + (if q n = true then 1 else 0) = hn p n + (if p n = true then 1 else 0) + (if k < n + 1 then 1 else 0)
    by_cases e : n = k
    · subst e
      rw [if_neg (by omega)] at ih
      rw [hq, hp, if_pos rfl, if_neg (by decide), if_pos (by omega), ih]
    · rw [h n e]
      by_cases c : k < n
      · rw [if_pos c] at ih
        rw [if_pos (show k < n + 1 by omega), ih]
        omega
      · rw [if_neg c] at ih
        rw [if_neg (show ¬ k < n + 1 by omega), ih]
        omega
section HRING
variable (n : Nat) (X : Nat → Nat → Int) (T : Nat → Nat → Prop) (src : Nat)
def hr_arc (a v : Nat) : Prop := (a < 12 ∧ 12 ≤ v ∧ v < 21 ∧ T a (v - 12)) ∨ (12 ≤ a ∧ a < 21 ∧ src < v ∧ v < n ∧ 0 < X v (a - 12))
/-- the queue: who has been seen, where, and from whom -/
def hr_B (st q : Nat) (queue : Nat → Nat) (bef : Nat → Int32) (pos : Nat → Nat) : Prop :=
  (∀ v, v < 21 → ¬ bef v = -1 → pos v < q ∧ queue (pos v) = v) ∧ (∀ i, i < q → queue i < 21 ∧ ¬ bef (queue i) = -1) ∧
  (∀ v, v < 21 → ¬ bef v = -1 → v = st ∨ ∃ a, a < 21 ∧ ¬ bef a = -1 ∧ bef v = nI a ∧ hr_arc n X T src a v ∧ pos a < pos v) ∧ hn (fun v => decide (¬ bef v = -1)) 21 = q
end HRING
section HRING2
variable {n : Nat} {X : Nat → Nat → Int} {T : Nat → Nat → Prop} {src : Nat}
theorem nI_nm1 {a : Nat} (h : a < 2 ^ 31) : ¬ nI a = -1 := by
  intro e
  have h1 := nI_toInt h
  rw [e] at h1
  have h2 : (-1 : Int32).toInt = -1 := by decide
  omega
theorem hr_enq {st q : Nat} {queue : Nat → Nat} {bef : Nat → Int32} {pos : Nat → Nat} (h : hr_B n X T src st q queue bef pos) {a node : Nat} (ha : a < 21) (hab : ¬ bef a = -1) (hnode : node < 21) (harc : hr_arc n X T src a node) :
    ∃ pos', hr_B n X T src st (f_Plan_enqueue q queue bef node a).1 (f_Plan_enqueue q queue bef node a).2.1 (f_Plan_enqueue q queue bef node a).2.2 pos' ∧ q ≤ (f_Plan_enqueue q queue bef node a).1 ∧ (∀ i, i < q → (f_Plan_enqueue q queue bef node a).2.1 i = queue i) ∧ (∀ v, ¬ bef v = -1 → ¬ (f_Plan_enqueue q queue bef node a).2.2 v = -1) ∧ ¬ (f_Plan_enqueue q queue bef node a).2.2 node = -1 := by
  obtain ⟨b1, b2, b3, b4⟩ := h
  unfold f_Plan_enqueue
  by_cases c : bef node = -1
  · have hq21 : q < 21 := by
      have := hn_lt (p := fun v => decide (¬ bef v = -1)) (q := fun _ => true) (fun _ _ => rfl) (k := node) (by simp [c]) rfl (n := 21) hnode
      have h2 := hn_le (fun _ => true) 21
      omega
    rw [if_pos c, if_neg (by omega)]
    have us : upd bef node (nI a) node = nI a := pk_us
    have un : ∀ v, v ≠ node → upd bef node (nI a) v = bef v := fun v hv => pk_un hv
    have seen : ∀ v, ¬ bef v = -1 → v ≠ node := fun v hv e => hv (e ▸ c)
    have qs : va_up queue q node q = node := va_up_self _ _ _
    have qn : ∀ i, i ≠ q → va_up queue q node i = queue i := fun i hi => va_up_ne _ _ hi
    refine ⟨va_up pos node q, ⟨?_, ?_, ?_, ?_⟩, by show q ≤ q + 1; omega, fun i hi => qn i (by omega), fun v hv => by show ¬ upd bef node (nI a) v = -1; rw [un v (seen v hv)]; exact hv, by show ¬ upd bef node (nI a) node = -1; rw [us]; exact nI_nm1 (by omega)⟩
    · intro v hv hs1
      show va_up pos node q v < q + 1 ∧ va_up queue q node (va_up pos node q v) = v
      by_cases e : v = node
      · subst e
        rw [va_up_self, qs]
        exact ⟨by omega, rfl⟩
      · rw [va_up_ne _ _ e]
        have hs2 : ¬ bef v = -1 := by
          have : ¬ upd bef node (nI a) v = -1 := hs1
          rw [un v e] at this
          exact this
        have k := b1 v hv hs2
        rw [qn _ (by omega)]
        exact ⟨by omega, k.2⟩
    · intro i hi
      show va_up queue q node i < 21 ∧ ¬ upd bef node (nI a) (va_up queue q node i) = -1
      have hi' : i < q + 1 := hi
      by_cases e : i = q
      · subst e
        rw [qs, us]
        exact ⟨hnode, nI_nm1 (by omega)⟩
      · rw [qn i e]
        have k := b2 i (by omega)
        rw [un _ (seen _ k.2)]
        exact k
    · intro v hv hs1
      show v = st ∨ ∃ a', a' < 21 ∧ ¬ upd bef node (nI a) a' = -1 ∧ upd bef node (nI a) v = nI a' ∧ hr_arc n X T src a' v ∧ va_up pos node q a' < va_up pos node q v
      by_cases e : v = node
      · subst e
        refine Or.inr ⟨a, ha, by rw [un a (seen a hab)]; exact hab, us, harc, ?_⟩
        rw [va_up_self, va_up_ne _ _ (seen a hab)]
        exact (b1 a ha hab).1
      · have hs2 : ¬ bef v = -1 := by
          have : ¬ upd bef node (nI a) v = -1 := hs1
          rw [un v e] at this
          exact this
        rcases b3 v hv hs2 with k | ⟨a', k1, k2, k3, k4, k5⟩
        · exact Or.inl k
        · exact Or.inr ⟨a', k1, by rw [un a' (seen a' k2)]; exact k2, by rw [un v e]; exact k3, k4, by rw [va_up_ne _ _ e, va_up_ne _ _ (seen a' k2)]; exact k5⟩
    · have := hn_upd (p := fun v => decide (¬ bef v = -1)) (q := fun v => decide (¬ upd bef node (nI a) v = -1)) (k := node) (by simp [c]) (by simpa [us] using nI_nm1 (show a < 2 ^ 31 by omega)) (fun i hi => by simp [un i hi]) (n := 21)
      rw [if_pos hnode] at this
      show hn (fun v => decide (¬ upd bef node (nI a) v = -1)) 21 = q + 1
      omega
  · rw [if_neg c]
    exact ⟨pos, ⟨b1, b2, b3, b4⟩, Nat.le_refl _, fun _ _ => rfl, fun _ h => h, c⟩
/-- after one node: all that it reaches has been seen -/
def hr_N (n : Nat) (X : Nat → Nat → Int) (T : Nat → Nat → Prop) (src st q : Nat) (queue : Nat → Nat) (bef : Nat → Int32) (done : Nat → Prop) (r : Nat × (Nat → Nat) × (Nat → Int32)) : Prop :=
  ∃ pos', hr_B n X T src st r.1 r.2.1 r.2.2 pos' ∧ q ≤ r.1 ∧ (∀ i, i < q → r.2.1 i = queue i) ∧ (∀ v, ¬ bef v = -1 → ¬ r.2.2 v = -1) ∧ ∀ v, done v → ¬ r.2.2 v = -1
theorem hr_cols {LP0 LP2 LP3 : Nat → Int64} (hT : ∀ s c, T s c ↔ ¬ f_Plan_isFree LP0 LP2 LP3 s c = 0) {st a : Nat} (ha : a < 12) {q0 : Nat} {queue0 : Nat → Nat} {bef0 : Nat → Int32} (hab : ¬ bef0 a = -1) :
    ∀ (m x : Nat) (q : Nat) (queue : Nat → Nat) (bef : Nat → Int32), 9 - x < m → hr_N n X T src st q0 queue0 bef0 (fun v => hr_arc n X T src a v ∧ v < 12 + x) (q, queue, bef) →
      hr_N n X T src st q0 queue0 bef0 (fun v => hr_arc n X T src a v) (f_Plan_enqueueColumns_h2 LP0 LP2 LP3 a f_Plan_enqueueColumns_x2 m x q queue bef) := by
  intro m
  induction m with
  | zero => exact fun x q queue bef h => absurd h (Nat.not_lt_zero _)
  | succ m ih =>
    intro x q queue bef hm h
    rw [f_Plan_enqueueColumns_h2]
    unfold f_Plan_enqueueColumns_h2B
    by_cases c : 9 ≤ x
    · rw [if_pos c]
      obtain ⟨pos, p1, p2, p3, p4, p5⟩ := h
      refine ⟨pos, p1, p2, p3, p4, fun v hv => p5 v ⟨hv, ?_⟩⟩
      rcases hv with k | k <;> omega
    · rw [if_neg c, hh_bind]
      obtain ⟨pos, p1, p2, p3, p4, p5⟩ := h
      by_cases e : f_Plan_isFree LP0 LP2 LP3 a x = 0
      · rw [if_pos e]
        refine ih (x + 1) _ _ _ (by omega) ⟨pos, p1, p2, p3, p4, fun v hv => p5 v ⟨hv.1, ?_⟩⟩
        have hv2 := hv.2
        by_cases ev : v = 12 + x
        · rcases hv.1 with k | k
          · have := k.2.2.2
            rw [ev, show 12 + x - 12 = x by omega, hT] at this
            exact absurd e this
          · omega
        · omega
      · rw [if_neg e, hh_bind]
        have arc : hr_arc n X T src a (12 + x) := Or.inl ⟨ha, by omega, by omega, by rw [show 12 + x - 12 = x by omega, hT]; exact e⟩
        obtain ⟨pos', k1, k2, k3, k4, k5⟩ := hr_enq p1 (a := a) (node := 12 + x) (by omega) (p4 a hab) (by omega) arc
        refine ih (x + 1) _ _ _ (by omega) ⟨pos', k1, Nat.le_trans p2 k2, fun i hi => ?_, fun v hv => k4 v (p4 v hv), fun v hv => ?_⟩
        · have p2' : q0 ≤ q := p2
          exact (k3 i (by show i < q; omega)).trans (p3 i hi)
        · by_cases ev : v = 12 + x
          · rw [ev]; exact k5
          · exact k4 v (p5 v ⟨hv.1, by have := hv.2; omega⟩)
theorem hr_givers {L : Nat → Int64} (hn12 : n ≤ 12) (hL : hk_is L X) {st a : Nat} (ha : a < 9) {q0 : Nat} {queue0 : Nat → Nat} {bef0 : Nat → Int32} (hab : ¬ bef0 (12 + a) = -1) :
    ∀ (m x : Nat) (q : Nat) (queue : Nat → Nat) (bef : Nat → Int32), n - x < m → src < x → hr_N n X T src st q0 queue0 bef0 (fun v => hr_arc n X T src (12 + a) v ∧ v < x) (q, queue, bef) →
      hr_N n X T src st q0 queue0 bef0 (fun v => hr_arc n X T src (12 + a) v) (f_Plan_enqueueGivers_h2 n L a f_Plan_enqueueGivers_x2 m x q queue bef) := by
  intro m
  induction m with
  | zero => exact fun x q queue bef h => absurd h (Nat.not_lt_zero _)
  | succ m ih =>
    intro x q queue bef hm hsx h
    rw [f_Plan_enqueueGivers_h2]
    unfold f_Plan_enqueueGivers_h2B
    obtain ⟨pos, p1, p2, p3, p4, p5⟩ := h
    by_cases c : n ≤ x
    · rw [if_pos c]
      refine ⟨pos, p1, p2, p3, p4, fun v hv => p5 v ⟨hv, ?_⟩⟩
      rcases hv with k | k <;> omega
    · rw [if_neg c]
      have eX : (L (x * 9 + a)).toInt = X x a := hL x a (by omega) ha
      by_cases e : L (x * 9 + a) ≤ 0
      · rw [if_pos e]
        rw [h64_le, h64_0, eX] at e
        refine ih (x + 1) _ _ _ (by omega) (by omega) ⟨pos, p1, p2, p3, p4, fun v hv => p5 v ⟨hv.1, ?_⟩⟩
        have hv2 := hv.2
        by_cases ev : v = x
        · rcases hv.1 with k | k
          · omega
          · have := k.2.2.2.2
            rw [ev, show 12 + a - 12 = a by omega] at this
            omega
        · omega
      · rw [if_neg e, hh_bind]
        rw [h64_le, h64_0, eX] at e
        have arc : hr_arc n X T src (12 + a) x := Or.inr ⟨by omega, by omega, hsx, by omega, by rw [show 12 + a - 12 = a by omega]; omega⟩
        obtain ⟨pos', k1, k2, k3, k4, k5⟩ := hr_enq p1 (a := 12 + a) (node := x) (by omega) (p4 _ hab) (by omega) arc
        refine ih (x + 1) _ _ _ (by omega) (by omega) ⟨pos', k1, Nat.le_trans p2 k2, fun i hi => ?_, fun v hv => k4 v (p4 v hv), fun v hv => ?_⟩
        · have p2' : q0 ≤ q := p2
          exact (k3 i (by show i < q; omega)).trans (p3 i hi)
        · by_cases ev : v = x
          · rw [ev]; exact k5
          · exact k4 v (p5 v ⟨hv.1, by have := hv.2; omega⟩)
/-- what findRing finds: a column where the source can give less, on the tree; or a set that no ring leaves -/
def hr_out (n : Nat) (X : Nat → Nat → Int) (T : Nat → Nat → Prop) (src fill : Nat) (r : Int32 × Nat × (Nat → Nat) × (Nat → Int32)) : Prop :=
  (r.1 = -1 ∧ ¬ r.2.2.2 (12 + fill) = -1 ∧ (∀ a v, a < 21 → v < 21 → ¬ r.2.2.2 a = -1 → hr_arc n X T src a v → ¬ r.2.2.2 v = -1) ∧ ∀ c, c < 9 → fill < c → ¬ r.2.2.2 (12 + c) = -1 → X src c ≤ 0) ∨
  ∃ c q pos, c < 9 ∧ fill < c ∧ r.1 = nI c ∧ 0 < X src c ∧ ¬ r.2.2.2 (12 + c) = -1 ∧ hr_B n X T src (12 + fill) q r.2.2.1 r.2.2.2 pos
theorem hr_27 {L LP0 LP2 LP3 : Nat → Int64} (hn12 : n ≤ 12) (hsrc : src < n) (hL : hk_is L X) (hT : ∀ s c, T s c ↔ ¬ f_Plan_isFree LP0 LP2 LP3 s c = 0) {fill : Nat} (hfill : fill < 8) :
    ∀ (m x : Nat) (q : Nat) (queue : Nat → Nat) (bef : Nat → Int32) (pos : Nat → Nat), 21 - x < m → x ≤ q → hr_B n X T src (12 + fill) q queue bef pos → ¬ bef (12 + fill) = -1 → (∀ i v, i < x → v < 21 → hr_arc n X T src (queue i) v → ¬ bef v = -1) → (∀ i c, i < x → queue i = 12 + c → fill < c → X src c ≤ 0) →
      hr_out n X T src fill (f_Plan_findRing_h27 fill n L src LP0 LP2 LP3 f_Plan_findRing_x27 m x q queue bef) := by
  intro m
  induction m with
  | zero => exact fun x q queue bef pos h => absurd h (Nat.not_lt_zero _)
  | succ m ih =>
    intro x q queue bef pos hm hxq hB hst hcl hno
    have hq21 : q ≤ 21 := by
      have := hn_le (fun v => decide (¬ bef v = -1)) 21
      have := hB.2.2.2
      omega
    rw [f_Plan_findRing_h27]
    unfold f_Plan_findRing_h27B
    by_cases c : q ≤ x
    · rw [if_pos c]
      refine Or.inl ⟨rfl, hst, fun a v ha hv hab harc => ?_, fun c' hc' hf hs1 => ?_⟩
      · have k := hB.1 a ha hab
        exact hcl (pos a) v (by omega) hv (by rw [k.2]; exact harc)
      · have k := hB.1 (12 + c') (by omega) hs1
        exact hno (pos (12 + c')) c' (by omega) k.2 hf
    · rw [if_neg c, if_neg (by omega)]
      have hx := hB.2.1 x (by omega)
      -- going on after a node
      have go : ∀ r, hr_N n X T src (12 + fill) q queue bef (fun v => hr_arc n X T src (queue x) v) r → (∀ c, queue x = 12 + c → fill < c → X src c ≤ 0) → hr_out n X T src fill (f_Plan_findRing_h27 fill n L src LP0 LP2 LP3 f_Plan_findRing_x27 m (x + 1) r.1 r.2.1 r.2.2) := by
        intro r hr hno2
        obtain ⟨pos', p1, p2, p3, p4, p5⟩ := hr
        refine ih (x + 1) _ _ _ pos' (by omega) (by omega) p1 (p4 _ hst) (fun i v hi hv harc => ?_) (fun i cc hi he hf => ?_)
        · rw [p3 i (by omega)] at harc
          by_cases e : i = x
          · subst e; exact p5 v harc
          · exact p4 v (hcl i v (by omega) hv harc)
        · rw [p3 i (by omega)] at he
          by_cases e : i = x
          · subst e; exact hno2 cc he hf
          · exact hno i cc (by omega) he hf
      by_cases c2 : 12 ≤ queue x
      · rw [if_pos c2]
        have e12 : 12 + (queue x - 12) = queue x := by omega
        have giv : hr_N n X T src (12 + fill) q queue bef (fun v => hr_arc n X T src (queue x) v) (f_Plan_enqueueGivers n q queue L bef (queue x - 12) (src + 1)) := by
          have k := hr_givers (T := T) (src := src) hn12 hL (st := 12 + fill) (a := queue x - 12) (by omega) (q0 := q) (queue0 := queue) (bef0 := bef) (by rw [e12]; exact hx.2) 13 (src + 1) q queue bef (by omega) (by omega) ⟨pos, hB, Nat.le_refl _, fun _ _ => rfl, fun _ h => h, fun v hv => by
            obtain ⟨v1, v2⟩ := hv
            rcases v1 with z | z <;> omega⟩
          rw [e12] at k
          exact k
        by_cases c3 : queue x - 12 ≤ fill
        · rw [if_pos c3, hh_bind]
          exact go _ giv (fun c he hf => by omega)
        · rw [if_neg c3]
          have eX : (L (src * 9 + (queue x - 12))).toInt = X src (queue x - 12) := hL src _ (by omega) (by omega)
          by_cases c4 : L (src * 9 + (queue x - 12)) ≤ 0
          · rw [if_pos c4, hh_bind]
            rw [h64_le, h64_0, eX] at c4
            exact go _ giv (fun c he hf => by rw [show c = queue x - 12 by omega]; exact c4)
          · rw [if_neg c4]
            rw [h64_le, h64_0, eX] at c4
            exact Or.inr ⟨queue x - 12, q, pos, by omega, by omega, rfl, by omega, by rw [e12]; exact hx.2, hB⟩
      · rw [if_neg c2, hh_bind]
        refine go _ (hr_cols (src := src) (n := n) (X := X) hT (st := 12 + fill) (a := queue x) (by omega) (q0 := q) (queue0 := queue) (bef0 := bef) hx.2 10 0 q queue bef (by omega) ⟨pos, hB, Nat.le_refl _, fun _ _ => rfl, fun _ h => h, fun v hv => by
            obtain ⟨v1, v2⟩ := hv
            rcases v1 with z | z <;> omega⟩) (fun c he hf => by omega)
theorem hr_find {L LP0 LP2 LP3 : Nat → Int64} (hn12 : n ≤ 12) (hsrc : src < n) (hL : hk_is L X) (hT : ∀ s c, T s c ↔ ¬ f_Plan_isFree LP0 LP2 LP3 s c = 0) {fill : Nat} (hfill : fill < 8) (NP0 : Nat → Nat) (IP1 : Nat → Int32) :
    hr_out n X T src fill (f_Plan_findRing n NP0 LP0 L LP2 LP3 IP1 src fill) := by
  unfold f_Plan_findRing
  rw [hh_bind]
  have e0 : ∀ v, v < 21 → hh_fillI 21 IP1 (-1) v = -1 := fun v hv => by unfold hh_fillI; rw [if_pos hv]
  unfold f_Plan_enqueue
  rw [if_pos (e0 _ (by omega)), if_neg (by omega)]
  have us : upd (hh_fillI 21 IP1 (-1)) (12 + fill) (nI (12 + fill)) (12 + fill) = nI (12 + fill) := pk_us
  have un : ∀ v, v ≠ 12 + fill → upd (hh_fillI 21 IP1 (-1)) (12 + fill) (nI (12 + fill)) v = hh_fillI 21 IP1 (-1) v := fun v hv => pk_un hv
  have only : ∀ v, v < 21 → ¬ upd (hh_fillI 21 IP1 (-1)) (12 + fill) (nI (12 + fill)) v = -1 → v = 12 + fill := by
    intro v hv hs1
    refine Classical.byContradiction (fun e => ?_)
    rw [un v e] at hs1
    exact hs1 (e0 v hv)
  refine hr_27 hn12 hsrc hL hT hfill 22 0 _ _ _ (fun _ => 0) (by omega) (Nat.zero_le _) ⟨?_, ?_, ?_, ?_⟩ (by show ¬ upd (hh_fillI 21 IP1 (-1)) (12 + fill) (nI (12 + fill)) (12 + fill) = -1; rw [us]; exact nI_nm1 (by omega)) (fun i v hi => absurd hi (Nat.not_lt_zero _)) (fun i c hi => absurd hi (Nat.not_lt_zero _))
  · intro v hv hs1
    have e := only v hv hs1
    subst e
    show 0 < 0 + 1 ∧ va_up NP0 0 (12 + fill) 0 = 12 + fill
    exact ⟨by omega, va_up_self _ _ _⟩
  · intro i hi
    have hi' : i < 0 + 1 := hi
    have e : i = 0 := by omega
    subst e
    show va_up NP0 0 (12 + fill) 0 < 21 ∧ ¬ upd (hh_fillI 21 IP1 (-1)) (12 + fill) (nI (12 + fill)) (va_up NP0 0 (12 + fill) 0) = -1
    rw [va_up_self, us]
    exact ⟨by omega, nI_nm1 (by omega)⟩
  · exact fun v hv hs1 => Or.inl (only v hv hs1)
  · have h0 : ∀ k, k ≤ 21 → hn (fun v => decide (¬ hh_fillI 21 IP1 (-1) v = -1)) k = 0 := by
      intro k
      induction k with
      | zero => exact fun _ => rfl
      | succ k ih =>
        intro hk
        show hn (fun v => decide (¬ hh_fillI 21 IP1 (-1) v = -1)) k + (if decide (¬ hh_fillI 21 IP1 (-1) k = -1) = true then 1 else 0) = 0
        rw [ih (by omega), if_neg (by simp [e0 k (by omega)])]
    have := hn_upd (p := fun v => decide (¬ hh_fillI 21 IP1 (-1) v = -1)) (q := fun v => decide (¬ upd (hh_fillI 21 IP1 (-1)) (12 + fill) (nI (12 + fill)) v = -1)) (k := 12 + fill) (by simp [e0 (12 + fill) (by omega)]) (by simpa [us] using nI_nm1 (show 12 + fill < 2 ^ 31 by omega)) (fun i hi => by simp [un i hi]) (n := 21)
    rw [if_pos (by omega), h0 21 (Nat.le_refl _)] at this
    exact this
end HRING2
