/-! Determinants of whole numbers, by hand: as much as elimination without fractions needs. -/
def sm : Nat → (Nat → Int) → Int
  | 0, _ => 0
  | n + 1, f => sm n f + f n
theorem sm_congr {n : Nat} {f g : Nat → Int} (h : ∀ i, i < n → f i = g i) : sm n f = sm n g := by
  induction n with
  | zero => rfl
  | succ n ih => show sm n f + f n = sm n g + g n; rw [ih (fun i hi => h i (by omega)), h n (by omega)]
theorem sm_zero {n : Nat} {f : Nat → Int} (h : ∀ i, i < n → f i = 0) : sm n f = 0 := by
  induction n with
  | zero => rfl
  | succ n ih => show sm n f + f n = 0; rw [ih (fun i hi => h i (by omega)), h n (by omega)]; rfl
theorem sm_add {n : Nat} {f g : Nat → Int} : sm n (fun i => f i + g i) = sm n f + sm n g := by
  induction n with
  | zero => rfl
  | succ n ih => show sm n (fun i => f i + g i) + (f n + g n) = (sm n f + f n) + (sm n g + g n); rw [ih]; omega
theorem sm_mul {n : Nat} {f : Nat → Int} {c : Int} : sm n (fun i => c * f i) = c * sm n f := by
  induction n with
  | zero => exact (Int.mul_zero c).symm
  | succ n ih => show sm n (fun i => c * f i) + c * f n = c * (sm n f + f n); rw [ih, Int.mul_add]
theorem sm_one {n p : Nat} {f : Nat → Int} (hp : p < n) (h : ∀ i, i < n → i ≠ p → f i = 0) : sm n f = f p := by
  induction n with
  | zero => omega
  | succ n ih =>
    show sm n f + f n = f p
    by_cases e : p = n
    · subst e; rw [sm_zero (fun i hi => h i (by omega) (by omega)), Int.zero_add]
    · rw [ih (by omega) (fun i hi hn => h i (by omega) hn), h n (by omega) (by omega), Int.add_zero]
theorem sm_two {n p : Nat} {f : Nat → Int} (hp : p + 1 < n) (h : ∀ i, i < n → i ≠ p → i ≠ p + 1 → f i = 0) (h2 : f p + f (p + 1) = 0) : sm n f = 0 := by
  induction n with
  | zero => omega
  | succ n ih =>
    show sm n f + f n = 0
    by_cases e : p + 1 = n
    · subst e; rw [sm_one (p := p) (by omega) (fun i hi hn => h i (by omega) hn (by omega))]; exact h2
    · rw [ih (by omega) (fun i hi hn hn2 => h i (by omega) hn hn2), h n (by omega) (by omega) (by omega)]; rfl
theorem sm_head {n : Nat} {f : Nat → Int} : sm (n + 1) f = f 0 + sm n (fun i => f (i + 1)) := by
  induction n with
  | zero => show 0 + f 0 = f 0 + 0; omega
  | succ n ih => show sm (n + 1) f + f (n + 1) = f 0 + (sm n (fun i => f (i + 1)) + f (n + 1)); rw [ih]; omega
def sk (i x : Nat) : Nat := if x < i then x else x + 1
def sg (i : Nat) : Int := if i % 2 = 0 then 1 else -1
theorem sg_s {i : Nat} : sg (i + 1) = - sg i := by
  unfold sg
  by_cases h : i % 2 = 0
  · rw [if_pos h, if_neg (by omega)]
  · rw [if_neg h, if_pos (by omega)]; rfl
abbrev Mx : Type := Nat → Nat → Int
def dl (M : Mx) (i : Nat) : Mx := fun x y => M (sk i x) (y + 1)
def det : Nat → Mx → Int
  | 0, _ => 1
  | m + 1, M => sm (m + 1) (fun i => sg i * M i 0 * det m (dl M i))
theorem det_s {m : Nat} {M : Mx} : det (m + 1) M = sm (m + 1) (fun i => sg i * M i 0 * det m (dl M i)) := rfl
theorem det_congr : ∀ {m : Nat} {M N : Mx}, (∀ x y, x < m → y < m → M x y = N x y) → det m M = det m N := by
  intro m
  induction m with
  | zero => intro M N _; rfl
  | succ m ih =>
    intro M N h
    rw [det_s, det_s]
    refine sm_congr (fun i hi => ?_)
    rw [h i 0 hi (by omega), ih (M := dl M i) (N := dl N i) (fun x y hx hy => by unfold dl; exact h _ _ (by unfold sk; split <;> omega) (by omega))]
def urw (M : Mx) (p : Nat) (v : Nat → Int) : Mx := fun x y => if x = p then v y else M x y
theorem dl_urw_eq {M : Mx} {p : Nat} {v : Nat → Int} : dl (urw M p v) p = dl M p := by
  funext x y
  unfold dl urw
  rw [if_neg (by unfold sk; split <;> omega)]
theorem dl_urw_ne {M : Mx} {p i : Nat} {v : Nat → Int} (h : i ≠ p) : dl (urw M p v) i = urw (dl M i) (if p < i then p else p - 1) (fun y => v (y + 1)) := by
  funext x y
  unfold dl urw
  have : (sk i x = p) ↔ (x = if p < i then p else p - 1) := by unfold sk; split <;> split <;> omega
  by_cases e : sk i x = p
  · rw [if_pos e, if_pos (this.mp e)]
  · rw [if_neg e, if_neg (fun z => e (this.mpr z))]
theorem det_lin : ∀ {m : Nat} {M : Mx} {p : Nat} {a b : Int} {u v : Nat → Int}, p < m → det m (urw M p (fun y => a * u y + b * v y)) = a * det m (urw M p u) + b * det m (urw M p v) := by
  intro m
  induction m with
  | zero => intro M p a b u v h; omega
  | succ m ih =>
    intro M p a b u v hp
    rw [det_s, det_s, det_s, ← sm_mul, ← sm_mul, ← sm_add]
    refine sm_congr (fun i hi => ?_)
    by_cases e : i = p
    · subst e
      rw [dl_urw_eq, dl_urw_eq, dl_urw_eq]
      unfold urw
      rw [if_pos rfl, if_pos rfl, if_pos rfl]
      generalize det m (dl M i) = D
      grind
    · rw [dl_urw_ne e, dl_urw_ne e, dl_urw_ne e, ih (by split <;> omega)]
      unfold urw
      rw [if_neg e, if_neg e, if_neg e]
      grind
theorem det_adj : ∀ {m : Nat} {M : Mx} {p : Nat}, p + 1 < m → (∀ y, y < m → M p y = M (p + 1) y) → det m M = 0 := by
  intro m
  induction m with
  | zero => intro M p h; omega
  | succ m ih =>
    intro M p hp h
    rw [det_s]
    refine sm_two (p := p) hp (fun i hi h1 h2 => ?_) ?_
    · rw [ih (M := dl M i) (p := if p < i then p else p - 1) (by split <;> omega) (fun y hy => by
        unfold dl
        by_cases e : p < i
        · rw [if_pos e]
          have e1 : sk i p = p := by unfold sk; rw [if_pos e]
          have e2 : sk i (p + 1) = p + 1 := by unfold sk; rw [if_pos (by omega)]
          rw [e1, e2]
          exact h _ (by omega)
        · rw [if_neg e]
          have e1 : sk i (p - 1) = p := by unfold sk; rw [if_neg (by omega)]; omega
          have e2 : sk i (p - 1 + 1) = p + 1 := by unfold sk; rw [if_neg (by omega)]; omega
          rw [e1, e2]
          exact h _ (by omega)), Int.mul_zero]
    · have : det m (dl M p) = det m (dl M (p + 1)) := det_congr (fun x y hx hy => by
        unfold dl
        by_cases e : x = p
        · subst e
          have e1 : sk x x = x + 1 := by unfold sk; rw [if_neg (by omega)]
          have e2 : sk (x + 1) x = x := by unfold sk; rw [if_pos (by omega)]
          rw [e1, e2]
          exact (h _ (by omega)).symm
        · have : sk p x = sk (p + 1) x := by unfold sk; split <;> split <;> omega
          rw [this])
      rw [this, h 0 (by omega), sg_s]
      grind
theorem urw_self {M : Mx} {p : Nat} : urw M p (M p) = M := by
  funext x y
  unfold urw
  by_cases e : x = p
  · rw [if_pos e, e]
  · rw [if_neg e]
theorem det_lin1 {m : Nat} {M : Mx} {p : Nat} {u v : Nat → Int} (hp : p < m) : det m (urw M p (fun y => u y + v y)) = det m (urw M p u) + det m (urw M p v) := by
  have := det_lin (M := M) (a := 1) (b := 1) (u := u) (v := v) hp
  simp only [Int.one_mul] at this
  exact this
def swp (M : Mx) (p : Nat) : Mx := urw (urw M p (M (p + 1))) (p + 1) (M p)
theorem det_swap {m : Nat} {M : Mx} {p : Nat} (hp : p + 1 < m) : det m (swp M p) = - det m M := by
  have up : ∀ u v y, urw (urw M p u) (p + 1) v p y = u y := fun u v y => by unfold urw; rw [if_neg (by omega), if_pos rfl]
  have uq : ∀ u v y, urw (urw M p u) (p + 1) v (p + 1) y = v y := fun u v y => by unfold urw; rw [if_pos rfl]
  have cm : ∀ u v, urw (urw M p u) (p + 1) v = urw (urw M (p + 1) v) p u := fun u v => by
    funext x y
    unfold urw
    by_cases e : x = p
    · rw [if_neg (by omega), if_pos e, if_pos e]
    · by_cases e2 : x = p + 1
      · rw [if_pos e2, if_neg e, if_pos e2]
      · rw [if_neg e2, if_neg e, if_neg e, if_neg e2]
  have z : ∀ u, det m (urw (urw M p u) (p + 1) u) = 0 := fun u => det_adj hp (fun y _ => by rw [up, uq])
  have l1 : ∀ u v w : Nat → Int, det m (urw (urw M p w) (p + 1) (fun y => u y + v y)) = det m (urw (urw M p w) (p + 1) u) + det m (urw (urw M p w) (p + 1) v) := fun u v w => det_lin1 hp
  have l2 : ∀ u v w : Nat → Int, det m (urw (urw M p (fun y => u y + v y)) (p + 1) w) = det m (urw (urw M p u) (p + 1) w) + det m (urw (urw M p v) (p + 1) w) := fun u v w => by
    rw [cm, cm u, cm v]
    exact det_lin1 (by omega)
  have e0 := z (fun y => M p y + M (p + 1) y)
  have e1 := l1 (M p) (M (p + 1)) (fun y => M p y + M (p + 1) y)
  have e2 := l2 (M p) (M (p + 1)) (M p)
  have e3 := l2 (M p) (M (p + 1)) (M (p + 1))
  have z1 := z (M p)
  have z2 := z (M (p + 1))
  have e4 : det m (urw (urw M p (M p)) (p + 1) (M (p + 1))) = det m M := by rw [urw_self, urw_self]
  have e5 : det m (urw (urw M p (M (p + 1))) (p + 1) (M p)) = det m (swp M p) := rfl
  rw [e0, e2, e3, z1, z2, e4, e5] at e1
  omega
theorem det_same {m : Nat} : ∀ (n : Nat) {M : Mx} {p q : Nat}, p + 1 + n = q → q < m → (∀ y, y < m → M p y = M q y) → det m M = 0 := by
  intro n
  induction n with
  | zero => intro M p q h hq he; subst h; exact det_adj hq he
  | succ n ih =>
    intro M p q h hq he
    obtain ⟨q', rfl⟩ : ∃ q', q = q' + 1 := ⟨q - 1, by omega⟩
    have s := det_swap (M := M) (p := q') hq
    have : det m (swp M q') = 0 := ih (p := p) (q := q') (by omega) (by omega) (fun y hy => by
      unfold swp urw
      rw [if_neg (by omega), if_neg (by omega), if_neg (by omega), if_pos rfl]
      exact he y hy)
    omega
theorem det_rowop {m : Nat} {M : Mx} {q : Nat} {a c : Int} (h0 : 0 < q) (hq : q < m) : det m (urw M q (fun y => a * M q y + c * M 0 y)) = a * det m M := by
  rw [det_lin hq]
  have : det m (urw M q (fun y => M 0 y)) = 0 := det_same (q - 1) (p := 0) (q := q) (by omega) hq (fun y _ => by
    unfold urw
    rw [if_neg (by omega), if_pos rfl])
  rw [this]
  have e2 : urw M q (fun y => M q y) = M := urw_self
  rw [e2, Int.mul_zero, Int.add_zero]
/-! Chio -/
def chm (M : Mx) (t : Nat) : Mx := fun x y => if 1 ≤ x ∧ x ≤ t then M 0 0 * M x y - M x 0 * M 0 y else M x y
theorem chm_det {m : Nat} {M : Mx} : ∀ t, t ≤ m → det (m + 1) (chm M t) = M 0 0 ^ t * det (m + 1) M := by
  intro t
  induction t with
  | zero =>
    intro _
    rw [Int.pow_zero, Int.one_mul]
    exact det_congr (fun x y _ _ => by unfold chm; rw [if_neg (by omega)])
  | succ t ih =>
    intro ht
    have e : chm M (t + 1) = urw (chm M t) (t + 1) (fun y => M 0 0 * chm M t (t + 1) y + (- M (t + 1) 0) * chm M t 0 y) := by
      funext x y
      unfold urw
      by_cases h : x = t + 1
      · subst h
        rw [if_pos rfl]
        show _ = M 0 0 * chm M t (t + 1) y + (- M (t + 1) 0) * chm M t 0 y
        unfold chm
        rw [if_pos (by omega), if_neg (by omega), if_neg (by omega)]
        grind
      · rw [if_neg h]
        unfold chm
        by_cases h2 : 1 ≤ x ∧ x ≤ t
        · rw [if_pos h2, if_pos (by omega)]
        · rw [if_neg h2, if_neg (by omega)]
    rw [e, det_rowop (by omega) (by omega), ih (by omega), Int.pow_succ]
    grind
def chE (M : Mx) : Mx := fun x y => M 0 0 * M (x + 1) (y + 1) - M (x + 1) 0 * M 0 (y + 1)
theorem chio {m : Nat} {M : Mx} : M 0 0 * det m (chE M) = M 0 0 ^ m * det (m + 1) M := by
  rw [← chm_det m (Nat.le_refl _), det_s, sm_one (p := 0) (by omega) (fun i hi h0 => by
    have : chm M m i 0 = 0 := by unfold chm; rw [if_pos (by omega)]; grind
    rw [this]; grind)]
  have e1 : chm M m 0 0 = M 0 0 := by unfold chm; rw [if_neg (by omega)]
  have e2 : det m (dl (chm M m) 0) = det m (chE M) := det_congr (fun x y hx hy => by
    unfold dl chm chE
    have : sk 0 x = x + 1 := by unfold sk; rw [if_neg (by omega)]
    rw [this, if_pos (by omega)])
  rw [e1, e2]
  unfold sg
  rw [if_pos (by decide), Int.one_mul]
/-! bordered minors, and elimination without fractions -/
def brd (B : Mx) (k i j : Nat) : Mx := fun x y => B (if x = k then i else x) (if y = k then j else y)
def DK (k : Nat) (B : Mx) (i j : Nat) : Int := det (k + 1) (brd B k i j)
theorem brd_kk {B : Mx} {k : Nat} : brd B k k k = B := by
  funext x y
  unfold brd
  have e1 : (if x = k then k else x) = x := by split <;> omega
  have e2 : (if y = k then k else y) = y := by split <;> omega
  rw [e1, e2]
theorem DK_kk {B : Mx} {k : Nat} : DK k B k k = det (k + 1) B := by unfold DK; rw [brd_kk]
theorem DK_0 {B : Mx} {i j : Nat} : DK 0 B i j = B i j := by
  show 0 + sg 0 * brd B 0 i j 0 0 * 1 = B i j
  unfold brd sg
  rw [if_pos rfl, if_pos rfl, if_pos (by decide)]
  omega
theorem DK_chio {B : Mx} {k i j : Nat} (ha : B 0 0 ≠ 0) : DK k (chE B) i j = B 0 0 ^ k * DK (k + 1) B (i + 1) (j + 1) := by
  have e := chio (m := k + 1) (M := brd B (k + 1) (i + 1) (j + 1))
  have e0 : brd B (k + 1) (i + 1) (j + 1) 0 0 = B 0 0 := by unfold brd; rw [if_neg (by omega), if_neg (by omega)]
  have e1 : chE (brd B (k + 1) (i + 1) (j + 1)) = brd (chE B) k i j := by
    funext x y
    unfold chE brd
    rw [if_neg (by omega), if_neg (by omega)]
    have q1 : (if x + 1 = k + 1 then i + 1 else x + 1) = (if x = k then i else x) + 1 := by split <;> split <;> omega
    have q2 : (if y + 1 = k + 1 then j + 1 else y + 1) = (if y = k then j else y) + 1 := by split <;> split <;> omega
    rw [q1, q2]
  rw [e0, e1, Int.pow_succ] at e
  unfold DK
  apply Int.eq_of_mul_eq_mul_left ha
  rw [e]
  grind
theorem bareiss : ∀ (k : Nat) {B : Mx} {i j : Nat}, (∀ t, t ≤ k → det t B ≠ 0) → k ≤ i → k ≤ j → DK k B k k * DK k B i j - DK k B i k * DK k B k j = det k B * DK (k + 1) B i j := by
  intro k
  induction k with
  | zero =>
    intro B i j _ _ _
    rw [DK_0, DK_0, DK_0, DK_0]
    show _ = 1 * (0 + sg 0 * brd B 1 i j 0 0 * (0 + sg 0 * dl (brd B 1 i j) 0 0 0 * 1) + sg 1 * brd B 1 i j 1 0 * (0 + sg 0 * dl (brd B 1 i j) 1 0 0 * 1))
    have s0 : sg 0 = 1 := by decide
    have s1 : sg 1 = -1 := by decide
    have k0 : sk 0 0 = 1 := by decide
    have k1 : sk 1 0 = 0 := by decide
    have d0 : dl (brd B 1 i j) 0 0 0 = B i j := by unfold dl; rw [k0]; rfl
    have d1 : dl (brd B 1 i j) 1 0 0 = B 0 j := by unfold dl; rw [k1]; rfl
    have b0 : brd B 1 i j 0 0 = B 0 0 := rfl
    have b1 : brd B 1 i j 1 0 = B i 0 := rfl
    rw [s0, s1, d0, d1, b0, b1]
    grind
  | succ k ih =>
    intro B i j hd hi hj
    obtain ⟨i, rfl⟩ : ∃ i', i = i' + 1 := ⟨i - 1, by omega⟩
    obtain ⟨j, rfl⟩ : ∃ j', j = j' + 1 := ⟨j - 1, by omega⟩
    have ha : B 0 0 ≠ 0 := by
      have := hd 1 (by omega)
      have e : det 1 B = B 0 0 := by rw [← DK_kk, DK_0]
      rw [e] at this
      exact this
    have hp : ∀ n, B 0 0 ^ n ≠ 0 := fun n => Int.pow_ne_zero ha
    have hE : ∀ t, t ≤ k → det t (chE B) ≠ 0 := fun t ht z => by
      have := chio (m := t) (M := B)
      rw [z, Int.mul_zero] at this
      rcases Int.mul_eq_zero.mp this.symm with h1 | h1
      · exact hp t h1
      · exact hd (t + 1) (by omega) h1
    have := ih (B := chE B) (i := i) (j := j) hE (by omega) (by omega)
    rw [DK_chio ha, DK_chio ha, DK_chio ha, DK_chio ha, DK_chio ha] at this
    have c := chio (m := k) (M := B)
    apply Int.eq_of_mul_eq_mul_left (hp (k + k + 1))
    have p1 : B 0 0 ^ (k + 1) = B 0 0 ^ k * B 0 0 := Int.pow_succ _ _
    have p2 : B 0 0 ^ (k + k + 1) = B 0 0 ^ k * B 0 0 ^ k * B 0 0 := by rw [Int.pow_succ, Int.pow_add]
    rw [p1] at this
    rw [p2]
    generalize B 0 0 ^ k = ak at *
    generalize B 0 0 = a at *
    generalize det k (chE B) = dE at *
    generalize det (k + 1) B = dB at *
    generalize DK (k + 1) B (k + 1) (k + 1) = x1 at *
    generalize DK (k + 1) B (i + 1) (j + 1) = x2 at *
    generalize DK (k + 1) B (i + 1) (k + 1) = x3 at *
    generalize DK (k + 1) B (k + 1) (j + 1) = x4 at *
    generalize DK (k + 1 + 1) B (i + 1) (j + 1) = x5 at *
    calc ak * ak * a * (x1 * x2 - x3 * x4) = a * (ak * x1 * (ak * x2) - ak * x3 * (ak * x4)) := by grind
      _ = a * (dE * (ak * a * x5)) := by rw [this]
      _ = (a * dE) * (ak * a * x5) := by grind
      _ = (ak * dB) * (ak * a * x5) := by rw [c]
      _ = ak * ak * a * (dB * x5) := by grind
/-! the last row -/
theorem det_last : ∀ (m : Nat) {M : Mx}, (∀ y, y < m → M m y = 0) → det (m + 1) M = M m m * det m M := by
  intro m
  induction m with
  | zero => intro M _; show 0 + sg 0 * M 0 0 * 1 = M 0 0 * 1; unfold sg; rw [if_pos (by decide)]; omega
  | succ m ih =>
    intro M h
    rw [det_s]
    show sm (m + 1) _ + sg (m + 1) * M (m + 1) 0 * _ = _
    rw [h 0 (by omega), Int.mul_zero, Int.zero_mul, Int.add_zero, det_s, ← sm_mul]
    refine sm_congr (fun i hi => ?_)
    rw [ih (M := dl M i) (fun y hy => by unfold dl sk; rw [if_neg (by omega)]; exact h _ (by omega))]
    have : dl M i m m = M (m + 1) (m + 1) := by unfold dl sk; rw [if_neg (by omega)]
    rw [this]
    grind
theorem DK_last {B : Mx} {k i j : Nat} (h : ∀ y, y < k → B i y = 0) : DK k B i j = B i j * det k B := by
  unfold DK
  rw [det_last k (fun y hy => by unfold brd; rw [if_pos rfl, if_neg (by omega)]; exact h y hy)]
  have : brd B k i j k k = B i j := by unfold brd; rw [if_pos rfl, if_pos rfl]
  rw [this, det_congr (N := B) (fun x y hx hy => by unfold brd; rw [if_neg (by omega), if_neg (by omega)])]
