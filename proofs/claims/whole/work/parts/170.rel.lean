/-! THE RELATION between the class's memory and the reference's, through a book B of 79 numbers (as the reference lays it out) -/
def VB (B : Nat → Nat) : Prop := (∀ i, B i < 1000) ∧ B 0 ≤ 2 ∧ B 1 ≤ 29 ∧ B 2 ≤ 6 ∧ B 5 ≤ 2 ∧ B 6 ≤ 12 ∧ B 7 ≤ 4 ∧ B 8 ≤ 5 ∧ (B 8 = 0 → B 6 = 0 ∧ B 7 = 0) ∧ (0 < B 8 → 2 ≤ B 8 ∧ 10 ≤ B 3 ∧ B 3 ≤ 150 ∧ 1 ≤ B 4 ∧ B 4 ≤ 9) ∧
  (∀ f, f < B 6 → B (9 + 4 * f) ≤ 3 ∧ (B (9 + 4 * f) < 2 → B (9 + 4 * f + 1) ≤ 99) ∧ (2 ≤ B (9 + 4 * f) → 1 ≤ B (9 + 4 * f + 1) ∧ B (9 + 4 * f + 1) ≤ 365) ∧ (1 ≤ B (9 + 4 * f + 2) ∧ B (9 + 4 * f + 2) ≤ 5) ∧ 1 ≤ B (9 + 4 * f + 3) ∧ B (9 + 4 * f + 3) ≤ 6) ∧
  (∀ z, z < B 7 → B (57 + 3 * z) < B 6 ∧ B (57 + 3 * z + 1) < B 6)
/-- a Book of the class, at the cell b, holds B -/
def FB (n : fr_N) (b : Nat) (B : Nat → Nat) : Prop := n b 1 = nI (B 6) ∧ n b 2 = nI (B 7) ∧ n b 3 = nI (B 8) ∧ (∀ i, i < 6 → n (b + 1) i = nI (B i)) ∧ (∀ i, i < 4 * B 6 → n (b + 2) i = nI (B (9 + i))) ∧
  (∀ z, z < B 7 → n (b + 3) z = nI (B (57 + 3 * z)) ∧ n (b + 4) z = nI (B (57 + 3 * z + 1)) ∧ n (b + 5) z = nI (B (57 + 3 * z + 2))) ∧ (∀ c, c < 5 → n (b + 6) c = nI (B (69 + 2 * c)) ∧ n (b + 7) c = nI (B (69 + 2 * c + 1)))
/-- a row of the reference holds B from a place on -/
def MB (r : Nat → Int32) (o : Nat) (B : Nat → Nat) : Prop := ∀ i, i < 79 → r (o + i) = nI (B i)
def R1 (f m : fr_N) (B : Nat → Nat) : Prop := VB B ∧ FB f 3 B ∧ f 3 0 = fr_b (decide (0 < B 8)) ∧ MB (m 1) 0 B
def R2 (f m : fr_N) (t : Nat) (T : Nat → Nat) : Prop := t ≤ 160 ∧ f 1 1 = nI t ∧ m 0 7 = nI t ∧ ∀ i, i < t → f 2 i = nI (T i) ∧ m 6 i = nI (T i) ∧ T i < 256
/-- an act as the class keeps it: how A' becomes A again -/
def UA (s x w v : Int32) (A' A : Nat → Nat) : Prop :=
  (s = 1 ∧ A' 6 = A 6 + 1 ∧ ∀ i, i ≠ 6 → (i < 9 + 4 * A 6 ∨ 9 + 4 * A 6 + 4 ≤ i) → A' i = A i) ∨
  (s = 0 ∧ ∃ j, j < 4 * A 6 ∧ x = nI j ∧ w = nI (A (9 + j)) ∧ ∀ i, i ≠ 9 + j → A' i = A i) ∨
  (s = 2 ∧ ∃ j, j < 6 ∧ x = nI j ∧ w = nI (A j) ∧ ∀ i, i ≠ j → A' i = A i) ∨
  (s = 3 ∧ ∃ c, c < 5 ∧ x = nI c ∧ w = nI (A (69 + 2 * c)) ∧ v = nI (A (69 + 2 * c + 1)) ∧ ∀ i, i ≠ 69 + 2 * c → i ≠ 69 + 2 * c + 1 → A' i = A i)
def R3 (f m : fr_N) (B : Nat → Nat) (k : Nat) (H : Nat → Nat → Nat) : Prop := k ≤ 16 ∧ f 43 4 = nI k ∧ m 0 3 = nI k ∧ ∀ j, j < k → VB (H j) ∧ MB (m 3) (79 * j) (H j) ∧ UA (f 44 j) (f 45 j) (f 46 j) (f 47 j) (if j + 1 < k then H (j + 1) else B) (H j)
/-- an image: the class's Book at b, the reference's number i -/
def IM (f m : fr_N) (b i : Nat) : Prop := (f b 0 = 0 ∧ m 5 i = 0) ∨ (f b 0 = 1 ∧ m 5 i = 1 ∧ ∃ J, VB J ∧ 0 < J 8 ∧ FB f b J ∧ MB (m 4) (79 * i) J)
def RR (f m : fr_N) : Prop := ∃ (B : Nat → Nat) (k : Nat) (H : Nat → Nat → Nat) (t : Nat) (T : Nat → Nat), R1 f m B ∧ R2 f m t T ∧ R3 f m B k H ∧ (IM f m 18 0 ∧ IM f m 26 1) ∧ f 0 7 = m 0 14
theorem FB.kept {n n' : fr_N} {b : Nat} {B : Nat → Nat} (h : FB n b B) (e : ∀ c, b ≤ c → c ≤ b + 7 → n' c = n c) : FB n' b B := by
  obtain ⟨h1, h2, h3, h4, h5, h6, h7⟩ := h
  refine ⟨?_, ?_, ?_, ?_, ?_, ?_, ?_⟩
  · rw [e b (by omega) (by omega)]; exact h1
  · rw [e b (by omega) (by omega)]; exact h2
  · rw [e b (by omega) (by omega)]; exact h3
  · intro i hi; rw [e (b + 1) (by omega) (by omega)]; exact h4 i hi
  · intro i hi; rw [e (b + 2) (by omega) (by omega)]; exact h5 i hi
  · intro z hz; rw [e (b + 3) (by omega) (by omega), e (b + 4) (by omega) (by omega), e (b + 5) (by omega) (by omega)]; exact h6 z hz
  · intro c hc; rw [e (b + 6) (by omega) (by omega), e (b + 7) (by omega) (by omega)]; exact h7 c hc
theorem R1.kept {f m f' m' : fr_N} {B : Nat → Nat} (h : R1 f m B) (e : ∀ c, 3 ≤ c → c ≤ 10 → f' c = f c) (e2 : m' 1 = m 1) : R1 f' m' B :=
  ⟨h.1, h.2.1.kept (fun c h1 h2 => e c h1 h2), by rw [e 3 (by omega) (by omega)]; exact h.2.2.1, by rw [e2]; exact h.2.2.2⟩
theorem R2.kept {f m f' m' : fr_N} {t : Nat} {T : Nat → Nat} (h : R2 f m t T) (e : ∀ c, 1 ≤ c → c ≤ 2 → f' c = f c) (e2 : m' 6 = m 6) (e3 : m' 0 7 = m 0 7) : R2 f' m' t T :=
  ⟨h.1, by rw [e 1 (by omega) (by omega)]; exact h.2.1, by rw [e3]; exact h.2.2.1, fun i hi => by rw [e 2 (by omega) (by omega), e2]; exact h.2.2.2 i hi⟩
theorem R3.kept {f m f' m' : fr_N} {B : Nat → Nat} {k : Nat} {H : Nat → Nat → Nat} (h : R3 f m B k H) (e : ∀ c, 43 ≤ c → c ≤ 47 → f' c = f c) (e2 : m' 3 = m 3) (e3 : m' 0 3 = m 0 3) : R3 f' m' B k H :=
  ⟨h.1, by rw [e 43 (by omega) (by omega)]; exact h.2.1, by rw [e3]; exact h.2.2.1, fun j hj => by
    rw [e 44 (by omega) (by omega), e 45 (by omega) (by omega), e 46 (by omega) (by omega), e 47 (by omega) (by omega), e2]
    exact h.2.2.2 j hj⟩
theorem IM.kept {f m f' m' : fr_N} {b i : Nat} (h : IM f m b i) (e : ∀ c, b ≤ c → c ≤ b + 7 → f' c = f c) (e2 : m' 5 = m 5) (e3 : m' 4 = m 4) : IM f' m' b i := by
  rcases h with ⟨h1, h2⟩ | ⟨h1, h2, J, h3, h4, h5, h6⟩
  · exact Or.inl ⟨by rw [e b (by omega) (by omega)]; exact h1, by rw [e2]; exact h2⟩
  · exact Or.inr ⟨by rw [e b (by omega) (by omega)]; exact h1, by rw [e2]; exact h2, J, h3, h4, h5.kept e, by rw [e3]; exact h6⟩
/-- what a question changes: rows for the work alone -/
def SF (f f' : fr_N) : Prop := ∀ c, (c < 12 ∨ (16 < c ∧ c < 34) ∨ (42 < c ∧ c < 48)) → f' c = f c
def SM (m m' : fr_N) : Prop := (∀ j, (j < 8 ∨ j = 14) → m' 0 j = m 0 j) ∧ m' 1 = m 1 ∧ ∀ c, 3 ≤ c → c < 7 → m' c = m c
theorem SF.rf {f : fr_N} : SF f f := fun _ _ => rfl
theorem SM.rf {m : fr_N} : SM m m := ⟨fun _ _ => rfl, rfl, fun _ _ _ => rfl⟩
theorem SF.trans {f g h : fr_N} (a : SF f g) (b : SF g h) : SF f h := fun c hc => (b c hc).trans (a c hc)
theorem SM.trans {f g h : fr_N} (a : SM f g) (b : SM g h) : SM f h := ⟨fun j hj => (b.1 j hj).trans (a.1 j hj), b.2.1.trans a.2.1, fun c h1 h2 => (b.2.2 c h1 h2).trans (a.2.2 c h1 h2)⟩
theorem RR.still {f m f' m' : fr_N} (h : RR f m) (a : SF f f') (b : SM m m') : RR f' m' := by
  obtain ⟨B, k, H, t, T, h1, h2, h3, ⟨h4, h5⟩, h6⟩ := h
  refine ⟨B, k, H, t, T, h1.kept (fun c h1 h2 => a c (by omega)) b.2.1, h2.kept (fun c h1 h2 => a c (by omega)) (b.2.2 6 (by omega) (by omega)) (b.1 7 (by omega)), h3.kept (fun c h1 h2 => a c (by omega)) (b.2.2 3 (by omega) (by omega)) (b.1 3 (by omega)), ⟨h4.kept (fun c h1 h2 => a c (by omega)) (b.2.2 5 (by omega) (by omega)) (b.2.2 4 (by omega) (by omega)), h5.kept (fun c h1 h2 => a c (by omega)) (b.2.2 5 (by omega) (by omega)) (b.2.2 4 (by omega) (by omega))⟩, ?_⟩
  rw [a 0 (by omega), b.1 14 (by omega)]
  exact h6
/-- two answers agree, and the memories behind them -/
def OK (a b : Option (Int32 × fr_N)) : Prop := ∃ (r : Int32) (f m : fr_N), a = some (r, f) ∧ b = some (r, m) ∧ RR f m
/-- a question's two answers agree, and nothing that lasts has changed -/
def OQ (f m : fr_N) (a b : Option (Int32 × fr_N)) : Prop := ∃ (r : Int32) (f' m' : fr_N), a = some (r, f') ∧ b = some (r, m') ∧ SF f f' ∧ SM m m'
theorem OQ.ok {f m : fr_N} {a b : Option (Int32 × fr_N)} (h : OQ f m a b) (hr : RR f m) : OK a b := by
  obtain ⟨r, f', m', h1, h2, h3, h4⟩ := h
  exact ⟨r, f', m', h1, h2, hr.still h3 h4⟩
theorem OK.same {f m : fr_N} {r : Int32} (hr : RR f m) : OK (some (r, f)) (some (r, m)) := ⟨r, f, m, rfl, rfl, hr⟩
theorem OQ.same {f m : fr_N} {r : Int32} : OQ f m (some (r, f)) (some (r, m)) := ⟨r, f, m, rfl, rfl, SF.rf, SM.rf⟩
theorem RR_0 : RR (fun _ _ => 0) (fun _ _ => 0) := by
  refine ⟨fun _ => 0, 0, fun _ _ => 0, 0, fun _ => 0, ⟨?_, ?_, rfl, fun _ _ => rfl⟩, ⟨by omega, rfl, rfl, fun i hi => absurd hi (by omega)⟩, ⟨by omega, rfl, rfl, fun i hi => absurd hi (by omega)⟩, ⟨Or.inl ⟨rfl, rfl⟩, Or.inl ⟨rfl, rfl⟩⟩, rfl⟩
  · exact ⟨fun _ => Nat.zero_lt_succ _, by decide, by decide, by decide, by decide, by decide, by decide, by decide, fun _ => ⟨rfl, rfl⟩, fun h => absurd h (by decide), fun f hf => absurd hf (Nat.not_lt_zero f), fun f hf => absurd hf (Nat.not_lt_zero f)⟩
  · exact ⟨rfl, rfl, rfl, fun _ _ => rfl, fun _ _ => rfl, fun _ _ => ⟨rfl, rfl, rfl⟩, fun _ _ => ⟨rfl, rfl⟩⟩
