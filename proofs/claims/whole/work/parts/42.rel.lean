/-! what holds of a desk, and how class and reference stand to each other between two calls -/
def sumN (f : Nat → Nat) : Nat → Nat
  | 0 => 0
  | n + 1 => sumN f n + f n
def cntN (p : Nat → Bool) : Nat → Nat
  | 0 => 0
  | n + 1 => cntN p n + (if p n = true then 1 else 0)
theorem sumN_cong {f g : Nat → Nat} : ∀ {n : Nat}, (∀ k, k < n → f k = g k) → sumN f n = sumN g n
  | 0, _ => rfl
  | n + 1, h => by
    show sumN f n + f n = sumN g n + g n
    rw [sumN_cong (fun k hk => h k (by omega)), h n (by omega)]
theorem cntN_cong {p q : Nat → Bool} : ∀ {n : Nat}, (∀ k, k < n → p k = q k) → cntN p n = cntN q n
  | 0, _ => rfl
  | n + 1, h => by
    show cntN p n + (if p n = true then 1 else 0) = cntN q n + (if q n = true then 1 else 0)
    rw [cntN_cong (fun k hk => h k (by omega)), h n (by omega)]
/-- steps in a canister, in a can -/
def inC (G : Nat → Nat) (c : Nat) : Nat := sumN (fun j => G (5 + 46 * c + 19 + j)) (G (5 + 46 * c + 3))
def allK (G : Nat → Nat) (k : Nat) : Nat := sumN (fun c => G (579 + 44 * k + 2 + c)) 8
def GIc (G : Nat → Nat) (c : Nat) : Prop := G (5 + 46 * c + 3) ≤ 12 ∧ (∀ r, r < 3 → G (5 + 46 * c + r) ≤ 9) ∧ G (5 + 46 * c + 44) ≤ 99 ∧ ∀ j, j < G (5 + 46 * c + 3) → G (5 + 46 * c + 7 + j) ≤ 99 ∧ 1 ≤ G (5 + 46 * c + 19 + j) ∧ G (5 + 46 * c + 19 + j) ≤ 500 ∧ G (5 + 46 * c + 31 + j) ≤ 499
def GIb (G : Nat → Nat) (b : Nat) : Prop := (∀ r, r < 3 → G (373 + 6 * b + r) ≤ 99) ∧ G (373 + 6 * b + 3) ≤ 200 ∧ G (373 + 6 * b + 4) ≤ 99 ∧ G (373 + 6 * b + 5) = cntN (fun k => decide (G (579 + 44 * k + 1) = b)) (G 3)
def GIf (G : Nat → Nat) (f : Nat) : Prop := (f < G 2 → G (409 + 17 * f) < G 1) ∧ ∀ c, c < 8 → G (409 + 17 * f + 1 + c) ≤ 9999 ∧ G (409 + 17 * f + 9 + c) ≤ 99 ∧ (f < G 2 ∧ c < G 0 ∨ G (409 + 17 * f + 1 + c) = 0 ∧ G (409 + 17 * f + 9 + c) = 0)
def GIk (G : Nat → Nat) (B : Nat → Nat → Nat → Bool) (k : Nat) : Prop := (k < G 3 → G (579 + 44 * k) < G 2 ∧ G (579 + 44 * k + 1) = G (409 + 17 * G (579 + 44 * k)) ∧ G (579 + 44 * k + 1) < G 1 ∧ allK G k ≤ G (373 + 6 * G (579 + 44 * k + 1) + 3)) ∧ (∀ c, c < 8 → cntN (fun q => B k c q) 100 ≤ G (579 + 44 * k + 2 + c) ∧ (c < G 0 ∨ G (579 + 44 * k + 2 + c) = 0)) ∧ G (579 + 44 * k + 10) ≤ G (579 + 44 * k + 11) ∧ G (579 + 44 * k + 11) ≤ allK G k ∧ (k < G 3 ∨ (∀ c, c < 8 → G (579 + 44 * k + 2 + c) = 0) ∧ (∀ c q, c < 8 → q < 100 → B k c q = false) ∧ G (579 + 44 * k + 10) = 0 ∧ G (579 + 44 * k + 11) = 0)
def GI (G : Nat → Nat) (B : Nat → Nat → Nat → Bool) : Prop := (G 0 ≤ 8 ∧ G 1 ≤ 6 ∧ G 2 ≤ 10 ∧ G 3 ≤ 20 ∧ G 4 ≤ 400) ∧ (∀ c, c < 8 → GIc G c) ∧ (∀ b, b < 6 → GIb G b) ∧ (∀ f, f < 10 → GIf G f) ∧ ∀ k, k < 20 → GIk G B k
/-- the class's desk at b, and the reference's row r -/
def DS (M : xM) (b : Nat) (r : Nat → Int32) (G : Nat → Nat) (B : Nat → Nat → Nat → Bool) : Prop := DR (vis G) M b G ∧ BR M b B ∧ (∀ i, i < 1460 → r i = nI (G i)) ∧ BG r B ∧ GI G B
theorem DS.cong {M M1 : xM} {b : Nat} {r r1 : Nat → Int32} {G : Nat → Nat} {B : Nat → Nat → Nat → Bool} (h : DS M b r G B) (h1 : ∀ k, k < 147 → M1.1 (b + k) = M.1 (b + k)) (h2 : ∀ k, k < 147 → M1.2 (b + k) = M.2 (b + k)) (h3 : ∀ i, i < 1460 → r1 i = r i) : DS M1 b r1 G B :=
  ⟨h.1.cong h1, h.2.1.cong h2, fun i hi => (h3 i hi).trans (h.2.2.1 i hi), fun k c q hk hc hq => by rw [h3 _ (by omega)]; exact h.2.2.2.1 k c q hk hc hq, h.2.2.2.2⟩
def HI (M R : xM) : Prop := ∃ n nx, n ≤ 8 ∧ nx < 8 ∧ R.1 0 3 = nI n ∧ M.1 1471 1 = nI n ∧ M.1 1471 2 = nI nx ∧ ∀ j, j < n → ∃ G B, DS M (294 + 147 * ((nx + 8 - n + j) % 8)) (fun i => R.1 2 (1460 * j + i)) G B
def KI (M R : xM) : Prop := (M.1 1470 2 = 0 ∧ R.1 0 5 = 0) ∨ (M.1 1470 2 = 1 ∧ R.1 0 5 = 1 ∧ ∃ G B, DS M 147 (R.1 3) G B)
def TI (M R : xM) : Prop := ∃ t, t ≤ 60 ∧ M.1 1473 1 = nI t ∧ R.1 0 10 = nI t ∧ ∀ i, i < t → M.1 1474 i = R.1 5 i ∧ ∃ ch, ch < 65536 ∧ R.1 5 i = nI ch
def LI (M R : xM) : Prop := M.1 1470 5 = R.1 0 11 ∧ M.1 1470 6 = R.1 0 7 ∧ (R.1 0 7 = 5 → M.1 1470 7 = R.1 0 8)
def RelX (M R : xM) : Prop := HI M R ∧ KI M R ∧ TI M R ∧ LI M R
def Rel (M R : xM) : Prop := (∃ G B, DS M 0 (R.1 1) G B) ∧ RelX M R
/-- places of the class outside its desk and its working rows; what of the reference lasts -/
def sameX (M M1 : xM) : Prop := (∀ k, 147 ≤ k → k < 1475 → M1.1 k = M.1 k) ∧ ∀ k, 147 ≤ k → k < 1470 → M1.2 k = M.2 k
def sameR (R R1 : xM) : Prop := R1.1 2 = R.1 2 ∧ R1.1 3 = R.1 3 ∧ R1.1 5 = R.1 5 ∧ R1.1 0 3 = R.1 0 3 ∧ R1.1 0 5 = R.1 0 5 ∧ R1.1 0 7 = R.1 0 7 ∧ R1.1 0 8 = R.1 0 8 ∧ R1.1 0 10 = R.1 0 10 ∧ R1.1 0 11 = R.1 0 11
theorem sameX.rf {M : xM} : sameX M M := ⟨fun _ _ _ => rfl, fun _ _ _ => rfl⟩
theorem sameX.tr {M M1 M2 : xM} (h : sameX M M1) (h2 : sameX M1 M2) : sameX M M2 := ⟨fun k a b => (h2.1 k a b).trans (h.1 k a b), fun k a b => (h2.2 k a b).trans (h.2 k a b)⟩
theorem sameR.rf {R : xM} : sameR R R := ⟨rfl, rfl, rfl, rfl, rfl, rfl, rfl, rfl, rfl⟩
theorem sameR.tr {R R1 R2 : xM} (h : sameR R R1) (h2 : sameR R1 R2) : sameR R R2 := by
  obtain ⟨a1, a2, a3, a4, a5, a6, a7, a8, a9⟩ := h
  obtain ⟨b1, b2, b3, b4, b5, b6, b7, b8, b9⟩ := h2
  exact ⟨b1.trans a1, b2.trans a2, b3.trans a3, b4.trans a4, b5.trans a5, b6.trans a6, b7.trans a7, b8.trans a8, b9.trans a9⟩
theorem RelX.cong {M M1 R R1 : xM} (h : RelX M R) (hm : sameX M M1) (hr : sameR R R1) : RelX M1 R1 := by
  obtain ⟨⟨n, nx, a1, a2, a3, a4, a5, a6⟩, hk, ⟨t, t1, t2, t3, t4⟩, l1, l2, l3⟩ := h
  obtain ⟨m1, m2⟩ := hm
  obtain ⟨r2, r3, r5, s3, s5, s7, s8, s10, s11⟩ := hr
  refine ⟨⟨n, nx, a1, a2, by rw [s3]; exact a3, by rw [m1 _ (by omega) (by omega)]; exact a4, by rw [m1 _ (by omega) (by omega)]; exact a5, fun j hj => ?_⟩, ?_, ⟨t, t1, by rw [m1 _ (by omega) (by omega)]; exact t2, by rw [s10]; exact t3, fun i hi => ?_⟩, ?_, ?_, ?_⟩
  · obtain ⟨G, B, hd⟩ := a6 j hj
    have hlt : (nx + 8 - n + j) % 8 < 8 := Nat.mod_lt _ (by decide)
    exact ⟨G, B, hd.cong (fun k hk => m1 _ (by omega) (by omega)) (fun k hk => m2 _ (by omega) (by omega)) (fun i hi => by rw [r2])⟩
  · rcases hk with ⟨k1, k2⟩ | ⟨k1, k2, G, B, hd⟩
    · exact Or.inl ⟨by rw [m1 _ (by omega) (by omega)]; exact k1, by rw [s5]; exact k2⟩
    · exact Or.inr ⟨by rw [m1 _ (by omega) (by omega)]; exact k1, by rw [s5]; exact k2, G, B, hd.cong (fun k hk => m1 _ (by omega) (by omega)) (fun k hk => m2 _ (by omega) (by omega)) (fun i hi => by rw [r3])⟩
  · rw [m1 _ (by omega) (by omega), r5]
    exact t4 i hi
  · rw [m1 _ (by omega) (by omega), s11]; exact l1
  · rw [m1 _ (by omega) (by omega), s7]; exact l2
  · rw [m1 _ (by omega) (by omega), s7, s8]; exact l3
theorem sumN_0 : ∀ n, sumN (fun _ => 0) n = 0
  | 0 => rfl
  | n + 1 => by show sumN (fun _ => 0) n + 0 = 0; rw [sumN_0 n]
theorem cntN_0 : ∀ n, cntN (fun _ => false) n = 0
  | 0 => rfl
  | n + 1 => by show cntN (fun _ => false) n + _ = 0; rw [cntN_0 n]; rfl
theorem GI_0 : GI (fun _ => 0) (fun _ _ _ => false) := by
  have z : ∀ j : Nat, ¬ j < 0 := fun j => Nat.not_lt_zero j
  refine ⟨⟨Nat.zero_le _, Nat.zero_le _, Nat.zero_le _, Nat.zero_le _, Nat.zero_le _⟩, fun c hc => ⟨Nat.zero_le _, fun r hr => Nat.zero_le _, Nat.zero_le _, fun j hj => absurd hj (z j)⟩, fun b hb => ⟨fun r hr => Nat.zero_le _, Nat.zero_le _, Nat.zero_le _, rfl⟩, fun f hf => ⟨fun h => absurd h (z f), fun c hc => ⟨Nat.zero_le _, Nat.zero_le _, Or.inr ⟨rfl, rfl⟩⟩⟩, fun k hk => ⟨fun h => absurd h (z k), fun c hc => ⟨by rw [cntN_0]; exact Nat.zero_le _, Or.inr rfl⟩, Nat.zero_le _, Nat.zero_le _, Or.inr ⟨fun c hc => rfl, fun c q hc hq => rfl, rfl, rfl⟩⟩⟩
theorem Rel_0 : Rel xM0 xR0 := by
  refine ⟨⟨fun _ => 0, fun _ _ _ => false, fun i hi hv => ?_, fun k c q hk hc hq => ?_, fun i hi => ?_, fun k c q hk hc hq => ?_, GI_0⟩, ⟨0, 0, by omega, by omega, rfl, rfl, rfl, fun j hj => by omega⟩, Or.inl ⟨rfl, rfl⟩, ⟨0, by omega, rfl, rfl, fun i hi => by omega⟩, rfl, rfl, fun h => absurd h (by decide)⟩
  · rw [xM0_z (by have := loc_lt i (isP_lt hi) hi; omega)]
    rfl
  · show bM 0 _ = false
    exact BitVec.getLsbD_zero
  · show (if (1 : Nat) = 0 ∧ i = 11 then (-1 : Int32) else 0) = nI 0
    rw [if_neg (by omega)]
    rfl
  · show bR (if (1 : Nat) = 0 ∧ _ then (-1 : Int32) else 0) _ = false
    rw [if_neg (by omega)]
    exact BitVec.getLsbD_zero
