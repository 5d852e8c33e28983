def suN (f : Nat → Nat) : Nat → Nat
  | 0 => 0
  | n + 1 => suN f n + f n
theorem suN_e {f g : Nat → Nat} : ∀ n, (∀ k, k < n → f k = g k) → suN f n = suN g n := by
  intro n
  induction n with
  | zero => intro _; rfl
  | succ n ih =>
    intro h
    show suN f n + f n = suN g n + g n
    rw [ih (fun k hk => h k (by omega)), h n (by omega)]
theorem suN_le {f g : Nat → Nat} : ∀ n, (∀ k, k < n → f k ≤ g k) → suN f n ≤ suN g n := by
  intro n
  induction n with
  | zero => intro _; exact Nat.le_refl _
  | succ n ih =>
    intro h
    show suN f n + f n ≤ suN g n + g n
    have h1 := ih (fun k hk => h k (by omega))
    have h2 := h n (by omega)
    omega
theorem suN_b {f : Nat → Nat} {B : Nat} : ∀ n, (∀ k, k < n → f k ≤ B) → suN f n ≤ n * B := by
  intro n
  induction n with
  | zero => intro _; exact Nat.zero_le _
  | succ n ih =>
    intro h
    show suN f n + f n ≤ (n + 1) * B
    have h1 := ih (fun k hk => h k (by omega))
    have h2 := h n (by omega)
    rw [Nat.add_mul, Nat.one_mul]
    omega
/-- how many of t stand in [a, b) -/
theorem suN_in {a b : Nat} (hab : a ≤ b) : ∀ t, b ≤ t → suN (fun k => if a ≤ k ∧ k < b then 1 else 0) t = b - a := by
  have low : ∀ t, t ≤ a → suN (fun k => if a ≤ k ∧ k < b then 1 else 0) t = 0 := by
    intro t
    induction t with
    | zero => intro _; rfl
    | succ t ih =>
      intro h
      show suN _ t + (if a ≤ t ∧ t < b then 1 else 0) = 0
      rw [ih (by omega), if_neg (by omega)]
  have mid : ∀ t, a ≤ t → t ≤ b → suN (fun k => if a ≤ k ∧ k < b then 1 else 0) t = t - a := by
    intro t
    induction t with
    | zero => intro h _; rw [low 0 (by omega)]; omega
    | succ t ih =>
      intro h1 h2
      show suN _ t + (if a ≤ t ∧ t < b then 1 else 0) = t + 1 - a
      by_cases c : a ≤ t
      · rw [ih c (by omega), if_pos ⟨c, by omega⟩]; omega
      · rw [low t (by omega), if_neg (by omega)]; omega
  intro t
  induction t with
  | zero => intro h; rw [low 0 (by omega)]; omega
  | succ t ih =>
    intro h
    by_cases c : b ≤ t
    · show suN _ t + (if a ≤ t ∧ t < b then 1 else 0) = b - a
      rw [ih c, if_neg (by omega)]
      rfl
    · rw [mid (t + 1) (by omega) (by omega)]; omega
def insW (w : Nat → Nat) (m v k : Nat) : Nat := if k < m then w k else if k = m then v else w (k - 1)
theorem insW_s {w : Nat → Nat} {m v : Nat} (f : Nat → Nat) : ∀ i, m ≤ i → suN (fun k => f (insW w m v k)) (i + 1) = suN (fun k => f (w k)) i + f v := by
  intro i
  induction i with
  | zero =>
    intro h
    show 0 + f (insW w m v 0) = 0 + f v
    unfold insW
    rw [if_neg (by omega), if_pos (by omega)]
  | succ i ih =>
    intro h
    by_cases c : m = i + 1
    · have e : suN (fun k => f (insW w m v k)) (i + 1) = suN (fun k => f (w k)) (i + 1) := suN_e _ (fun k hk => by
        unfold insW
        rw [if_pos (by omega)])
      show suN (fun k => f (insW w m v k)) (i + 1) + f (insW w m v (i + 1)) = _
      rw [e]
      unfold insW
      rw [if_neg (by omega), if_pos (by omega)]
    · show suN (fun k => f (insW w m v k)) (i + 1) + f (insW w m v (i + 1)) = suN (fun k => f (w k)) i + f (w i) + f v
      rw [ih (by omega)]
      have e : insW w m v (i + 1) = w i := by
        unfold insW
        rw [if_neg (by omega), if_neg (by omega)]
        rfl
      rw [e]
      omega
theorem insW_o {w : Nat → Nat} {m v i : Nat} (hw : ∀ a b, a < b → b < i → w a ≤ w b) (h1 : m = 0 ∨ w (m - 1) ≤ v) (h2 : ∀ k, m ≤ k → k < i → v ≤ w k) (hm : m ≤ i) : ∀ a b, a < b → b < i + 1 → insW w m v a ≤ insW w m v b := by
  intro a b hab hb
  have low : ∀ k, k < m → w k ≤ v := by
    intro k hk
    have h3 : w (m - 1) ≤ v := h1.resolve_left (by omega)
    by_cases e : k = m - 1
    · rw [e]; exact h3
    · exact Nat.le_trans (hw k (m - 1) (by omega) (by omega)) h3
  unfold insW
  by_cases a1 : a < m
  · rw [if_pos a1]
    by_cases b1 : b < m
    · rw [if_pos b1]; exact hw a b hab (by omega)
    · rw [if_neg b1]
      by_cases b2 : b = m
      · rw [if_pos b2]; exact low a a1
      · rw [if_neg b2]
        exact Nat.le_trans (low a a1) (h2 (b - 1) (by omega) (by omega))
  · rw [if_neg a1, if_neg (show ¬ b < m by omega), if_neg (show ¬ b = m by omega)]
    by_cases a2 : a = m
    · rw [if_pos a2]; exact h2 (b - 1) (by omega) (by omega)
    · rw [if_neg a2]
      exact hw (a - 1) (b - 1) (by omega) (by omega)
def arD (arr : Nat → Int32) (i : Nat) : Nat → Nat → Int32
  | 0 => arr
  | d + 1 => upd (arD arr i d) (i - d) (arD arr i d (i - d - 1))
theorem arD_v {arr : Nat → Int32} {i : Nat} : ∀ d, d ≤ i → ∀ k, k ≤ i → arD arr i d k = if i - d < k then arr (k - 1) else arr k := by
  intro d
  induction d with
  | zero =>
    intro _ k hk
    rw [if_neg (by omega)]
    rfl
  | succ d ih =>
    intro hd k hk
    show upd (arD arr i d) (i - d) (arD arr i d (i - d - 1)) k = _
    by_cases e : k = i - d
    · rw [updE e, ih (by omega) (i - d - 1) (by omega), if_neg (by omega), if_pos (by omega), e]
    · rw [updN e, ih (by omega) k hk]
      by_cases c : i - d < k
      · rw [if_pos c, if_pos (by omega)]
      · rw [if_neg c, if_neg (by omega)]
theorem sort_in {u : Nat} (hu : 4000000 ≤ u) {i t v : Nat} {w : Nat → Nat} {arr a0 cells : Nat → Int32} {p2 : Int32} (hi : i < 12) (hv : v ≤ 99) (hw : ∀ k, k < i → arr k = nI (w k) ∧ w k ≤ 99) (ho : ∀ a b, a < b → b < i → w a ≤ w b) (rec2 : Int32 × (Nat → Int32) → Option (Nat → Int32)) : ∃ (m : Nat) (arr2 : Nat → Int32), m ≤ i ∧ (m = 0 ∨ w (m - 1) ≤ v) ∧ (∀ k, m ≤ k → k < i → v ≤ w k) ∧ (∀ k, k < i + 1 → arr2 k = nI (insW w m v k)) ∧ jfix (fX0_sort_b18 u p2 4 (nI t) a0 48 cells rec2) u (nI i, nI v, nI i, arr) = rec2 (nI (i + 1), arr2) := by
  obtain ⟨d, ⟨hd1, hd2⟩, hd3⟩ := pk_least (fun d => d ≤ i ∧ (i - d = 0 ∨ w (i - d - 1) ≤ v)) ⟨i, Nat.le_refl i, Or.inl (Nat.sub_self i)⟩
  have hgt : ∀ k, i - d ≤ k → k < i → v < w k := by
    intro k h1 h2
    have h3 := hd3 (i - 1 - k) (by omega)
    have h4 : ¬ w (i - (i - 1 - k) - 1) ≤ v := fun q => h3 ⟨by omega, Or.inr q⟩
    rw [show i - (i - 1 - k) - 1 = k by omega] at h4
    omega
  refine ⟨i - d, upd (arD arr i d) (i - d) (nI v), by omega, hd2, fun k h1 h2 => Nat.le_of_lt (hgt k h1 h2), ?_, ?_⟩
  · intro k hk
    unfold insW
    by_cases e : k = i - d
    · rw [updE e, if_neg (by omega), if_pos e]
    · rw [updN e, arD_v d hd1 k (by omega)]
      by_cases c : i - d < k
      · rw [if_pos c, if_neg (by omega), if_neg e]
        exact (hw (k - 1) (by omega)).1
      · rw [if_neg c, if_pos (by omega)]
        exact (hw k (by omega)).1
  · have h59 : ∀ j, j = i - d → fX0_sort_b59 u p2 4 (nI t) a0 48 cells rec2 (nI i, nI v, nI j, arD arr i d) = rec2 (nI (i + 1), upd (arD arr i d) (i - d) (nI v)) := by
      intro j hj
      unfold fX0_sort_b59
      dsimp only
      rw [hj, jgN (by omega) (by omega), nI_clamp (by omega), blet_s, nI_1, blet_s]
    refine jfix_to (fun e => (nI i, nI v, nI (i - e), arD arr i e)) d _ ?_ ?_ (by omega)
    · intro e he rec
      unfold fX0_sort_b18
      dsimp only
      have hj : 1 ≤ i - e := by omega
      have hval : arD arr i e (i - e - 1) = nI (w (i - e - 1)) := by
        rw [arD_v e (by omega) _ (by omega), if_neg (by omega)]
        exact (hw _ (by omega)).1
      have h9 := (hw (i - e - 1) (by omega)).2
      have hg := hgt (i - e - 1) (by omega) (by omega)
      rw [if_neg (show ¬ nI (i - e) ≤ 0 from nI_ge (b := i - e) (a := 0) (by omega) (by omega)), show nI (i - e) - 1 = nI (i - e - 1) from subN (b := 1) hj, blet_s, jgN (by omega) (by omega), nI_clamp (by omega), if_neg (show ¬ arD arr i e (i - e - 1) ≤ nI v by rw [hval]; exact nI_ge hg (by omega)), blet_s, jgN (by omega) (by omega), jgN (by omega) (by omega), nI_clamp (by omega), nI_clamp (by omega), blet_s]
      have em : nI (i - e) + (-1) = nI (i - (e + 1)) := by
        rw [show nI (i - e) + (-1) = nI (i - e) - 1 from (Int32.sub_eq_add_neg (nI (i - e)) 1).symm]
        exact subN (b := 1) hj
      rw [em, blet_s]
      rfl
    · intro rec
      unfold fX0_sort_b18
      dsimp only
      by_cases c : i - d = 0
      · rw [if_pos (show nI (i - d) ≤ 0 by rw [c]; decide)]
        exact h59 _ rfl
      · have hval : arD arr i d (i - d - 1) = nI (w (i - d - 1)) := by
          rw [arD_v d (by omega) _ (by omega), if_neg (by omega)]
          exact (hw _ (by omega)).1
        have h9 := (hw (i - d - 1) (by omega)).2
        have hle := hd2.resolve_left c
        rw [if_neg (show ¬ nI (i - d) ≤ 0 from nI_ge (b := i - d) (a := 0) (by omega) (by omega)), show nI (i - d) - 1 = nI (i - d - 1) from subN (b := 1) (by omega), blet_s, jgN (by omega) (by omega), nI_clamp (by omega), if_pos (show arD arr i d (i - d - 1) ≤ nI v by rw [hval]; exact nI_le hle (by omega))]
        exact h59 _ rfl
theorem sortC {u : Nat} (hu : 4000000 ≤ u) {t : Nat} {x : Nat → Nat} {a0 cells : Nat → Int32} (ht : t ≤ 12) (hx : ∀ k, k < t → cells (k * 4) = nI (x k) ∧ x k ≤ 99) : ∃ arr, fX0_sort u (nI t) 4 (nI t) a0 48 cells = some arr ∧ ∃ w : Nat → Nat, (∀ k, k < t → arr k = nI (w k) ∧ w k ≤ 99) ∧ (∀ a b, a < b → b < t → w a ≤ w b) ∧ ∀ f : Nat → Nat, suN (fun k => f (w k)) t = suN (fun k => f (x k)) t := by
  unfold fX0_sort
  refine jfix_cn (fun i (p : Int32 × (Nat → Int32)) => p.1 = nI i ∧ ∃ w : Nat → Nat, (∀ k, k < i → p.2 k = nI (w k) ∧ w k ≤ 99) ∧ (∀ a b, a < b → b < i → w a ≤ w b) ∧ ∀ f : Nat → Nat, suN (fun k => f (w k)) i = suN (fun k => f (x k)) i) t _ ?_ ?_ (by omega) ⟨rfl, fun _ => 0, fun k h => absurd h (by omega), fun a b _ h => absurd h (by omega), fun f => rfl⟩
  · rintro i hi rec ⟨q, arr⟩ ⟨e, w, h1, h2, h3⟩
    dsimp only at e h1
    subst e
    unfold fX0_sort_b2
    dsimp only
    have hc : fX7_cell (nI i) 0 4 (nI t) 48 cells = some (nI (x i)) := by
      have h := cell7 (r := i) (c := 0) (w := 4) (R := t) (n := 48) (f := cells) hi (by decide) (by omega) (by omega) (by decide) (by decide)
      rw [show i * 4 + 0 = i * 4 by omega, (hx i hi).1] at h
      exact h
    rw [if_neg (nI_ge hi (by omega)), hc, ob_s]
    obtain ⟨m, arr2, m1, m2, m3, m4, m5⟩ := sort_in hu (t := t) (a0 := a0) (cells := cells) (p2 := nI t) (show i < 12 by omega) (hx i hi).2 h1 h2 rec
    refine ⟨_, m5, rfl, insW w m (x i), ?_, insW_o h2 m2 m3 m1, ?_⟩
    · intro k hk
      refine ⟨m4 k hk, ?_⟩
      unfold insW
      by_cases c1 : k < m
      · rw [if_pos c1]; exact (h1 k (by omega)).2
      · rw [if_neg c1]
        by_cases c2 : k = m
        · rw [if_pos c2]; exact (hx i hi).2
        · rw [if_neg c2]; exact (h1 (k - 1) (by omega)).2
    · intro f
      rw [insW_s f i m1, h3 f]
      rfl
  · rintro rec ⟨q, arr⟩ ⟨e, w, h⟩
    dsimp only at e h
    subst e
    unfold fX0_sort_b2
    dsimp only
    rw [if_pos (nI_le (Nat.le_refl t) (by omega))]
    exact ⟨arr, rfl, w, h⟩
