
def zb {α : Type} (v : Int32) (k : Bool → Option α) : Option α := if v = 0 then k false else if v = 1 then k true else none
theorem zb_i {α : Type} {v : Int32} {k : Bool → Option α} {y : α} (h : zb v k = some y) : ∃ b, v = bI b ∧ k b = some y := by
  unfold zb at h
  split at h
  · rename_i c
    exact ⟨false, c, h⟩
  · split at h
    · rename_i c
      exact ⟨true, c, h⟩
    · cases h
theorem sm_l {α β γ : Type} {x : α ⊕ β} {f : α → γ} {g : β → γ} {y : γ} (h : sm x f g = y) {a : α} (e : x = .inl a) : f a = y := by subst e; exact h
theorem sm_r {α β γ : Type} {x : α ⊕ β} {f : α → γ} {g : β → γ} {y : γ} (h : sm x f g = y) {a : β} (e : x = .inr a) : g a = y := by subst e; exact h
def cpk (sp dp n : Int32) (n0 n1 : Nat) : Bool := decide (¬ sp < 0) && (decide (¬ dp < 0) && (decide (¬ n < 0) && (decide (sp.toNatClampNeg + n.toNatClampNeg ≤ n0) && decide (dp.toNatClampNeg + n.toNatClampNeg ≤ n1))))
theorem cpk_i {sp dp n : Int32} {n0 n1 : Nat} (h : cpk sp dp n n0 n1 = true) : ¬ sp < 0 ∧ ¬ dp < 0 ∧ ¬ n < 0 ∧ sp.toNatClampNeg + n.toNatClampNeg ≤ n0 ∧ dp.toNatClampNeg + n.toNatClampNeg ≤ n1 := by
  unfold cpk at h
  simp only [Bool.and_eq_true, decide_eq_true_eq] at h
  exact h
def lq_1 {A1 X : Type} (F : (A1 → Option X) → A1 → Option X) : Nat → A1 → Option X
  | 0, _ => none
  | n + 1, a1 => F (lq_1 F n) a1
theorem lq_1_ind {A1 X : Type} {F : (A1 → Option X) → A1 → Option X} {P : A1 → X → Prop} (step : ∀ (rec : A1 → Option X), (∀ (a1 : A1) (x : X), rec a1 = some x → P a1 x) → ∀ (a1 : A1) (x : X), F rec a1 = some x → P a1 x) : ∀ (n : Nat) (a1 : A1) (x : X), lq_1 F n a1 = some x → P a1 x := by
  intro n
  induction n with
  | zero => intro a1 x h; cases h
  | succ n ih => intro a1 x h; exact step _ ih a1 x h
def lq_2 {A1 A2 X : Type} (F : (A1 → A2 → Option X) → A1 → A2 → Option X) : Nat → A1 → A2 → Option X
  | 0, _, _ => none
  | n + 1, a1, a2 => F (lq_2 F n) a1 a2
theorem lq_2_ind {A1 A2 X : Type} {F : (A1 → A2 → Option X) → A1 → A2 → Option X} {P : A1 → A2 → X → Prop} (step : ∀ (rec : A1 → A2 → Option X), (∀ (a1 : A1) (a2 : A2) (x : X), rec a1 a2 = some x → P a1 a2 x) → ∀ (a1 : A1) (a2 : A2) (x : X), F rec a1 a2 = some x → P a1 a2 x) : ∀ (n : Nat) (a1 : A1) (a2 : A2) (x : X), lq_2 F n a1 a2 = some x → P a1 a2 x := by
  intro n
  induction n with
  | zero => intro a1 a2 x h; cases h
  | succ n ih => intro a1 a2 x h; exact step _ ih a1 a2 x h
def lq_3 {A1 A2 A3 X : Type} (F : (A1 → A2 → A3 → Option X) → A1 → A2 → A3 → Option X) : Nat → A1 → A2 → A3 → Option X
  | 0, _, _, _ => none
  | n + 1, a1, a2, a3 => F (lq_3 F n) a1 a2 a3
theorem lq_3_ind {A1 A2 A3 X : Type} {F : (A1 → A2 → A3 → Option X) → A1 → A2 → A3 → Option X} {P : A1 → A2 → A3 → X → Prop} (step : ∀ (rec : A1 → A2 → A3 → Option X), (∀ (a1 : A1) (a2 : A2) (a3 : A3) (x : X), rec a1 a2 a3 = some x → P a1 a2 a3 x) → ∀ (a1 : A1) (a2 : A2) (a3 : A3) (x : X), F rec a1 a2 a3 = some x → P a1 a2 a3 x) : ∀ (n : Nat) (a1 : A1) (a2 : A2) (a3 : A3) (x : X), lq_3 F n a1 a2 a3 = some x → P a1 a2 a3 x := by
  intro n
  induction n with
  | zero => intro a1 a2 a3 x h; cases h
  | succ n ih => intro a1 a2 a3 x h; exact step _ ih a1 a2 a3 x h
def lq_4 {A1 A2 A3 A4 X : Type} (F : (A1 → A2 → A3 → A4 → Option X) → A1 → A2 → A3 → A4 → Option X) : Nat → A1 → A2 → A3 → A4 → Option X
  | 0, _, _, _, _ => none
  | n + 1, a1, a2, a3, a4 => F (lq_4 F n) a1 a2 a3 a4
theorem lq_4_ind {A1 A2 A3 A4 X : Type} {F : (A1 → A2 → A3 → A4 → Option X) → A1 → A2 → A3 → A4 → Option X} {P : A1 → A2 → A3 → A4 → X → Prop} (step : ∀ (rec : A1 → A2 → A3 → A4 → Option X), (∀ (a1 : A1) (a2 : A2) (a3 : A3) (a4 : A4) (x : X), rec a1 a2 a3 a4 = some x → P a1 a2 a3 a4 x) → ∀ (a1 : A1) (a2 : A2) (a3 : A3) (a4 : A4) (x : X), F rec a1 a2 a3 a4 = some x → P a1 a2 a3 a4 x) : ∀ (n : Nat) (a1 : A1) (a2 : A2) (a3 : A3) (a4 : A4) (x : X), lq_4 F n a1 a2 a3 a4 = some x → P a1 a2 a3 a4 x := by
  intro n
  induction n with
  | zero => intro a1 a2 a3 a4 x h; cases h
  | succ n ih => intro a1 a2 a3 a4 x h; exact step _ ih a1 a2 a3 a4 x h
def lq_5 {A1 A2 A3 A4 A5 X : Type} (F : (A1 → A2 → A3 → A4 → A5 → Option X) → A1 → A2 → A3 → A4 → A5 → Option X) : Nat → A1 → A2 → A3 → A4 → A5 → Option X
  | 0, _, _, _, _, _ => none
  | n + 1, a1, a2, a3, a4, a5 => F (lq_5 F n) a1 a2 a3 a4 a5
theorem lq_5_ind {A1 A2 A3 A4 A5 X : Type} {F : (A1 → A2 → A3 → A4 → A5 → Option X) → A1 → A2 → A3 → A4 → A5 → Option X} {P : A1 → A2 → A3 → A4 → A5 → X → Prop} (step : ∀ (rec : A1 → A2 → A3 → A4 → A5 → Option X), (∀ (a1 : A1) (a2 : A2) (a3 : A3) (a4 : A4) (a5 : A5) (x : X), rec a1 a2 a3 a4 a5 = some x → P a1 a2 a3 a4 a5 x) → ∀ (a1 : A1) (a2 : A2) (a3 : A3) (a4 : A4) (a5 : A5) (x : X), F rec a1 a2 a3 a4 a5 = some x → P a1 a2 a3 a4 a5 x) : ∀ (n : Nat) (a1 : A1) (a2 : A2) (a3 : A3) (a4 : A4) (a5 : A5) (x : X), lq_5 F n a1 a2 a3 a4 a5 = some x → P a1 a2 a3 a4 a5 x := by
  intro n
  induction n with
  | zero => intro a1 a2 a3 a4 a5 x h; cases h
  | succ n ih => intro a1 a2 a3 a4 a5 x h; exact step _ ih a1 a2 a3 a4 a5 x h
def lq_6 {A1 A2 A3 A4 A5 A6 X : Type} (F : (A1 → A2 → A3 → A4 → A5 → A6 → Option X) → A1 → A2 → A3 → A4 → A5 → A6 → Option X) : Nat → A1 → A2 → A3 → A4 → A5 → A6 → Option X
  | 0, _, _, _, _, _, _ => none
  | n + 1, a1, a2, a3, a4, a5, a6 => F (lq_6 F n) a1 a2 a3 a4 a5 a6
theorem lq_6_ind {A1 A2 A3 A4 A5 A6 X : Type} {F : (A1 → A2 → A3 → A4 → A5 → A6 → Option X) → A1 → A2 → A3 → A4 → A5 → A6 → Option X} {P : A1 → A2 → A3 → A4 → A5 → A6 → X → Prop} (step : ∀ (rec : A1 → A2 → A3 → A4 → A5 → A6 → Option X), (∀ (a1 : A1) (a2 : A2) (a3 : A3) (a4 : A4) (a5 : A5) (a6 : A6) (x : X), rec a1 a2 a3 a4 a5 a6 = some x → P a1 a2 a3 a4 a5 a6 x) → ∀ (a1 : A1) (a2 : A2) (a3 : A3) (a4 : A4) (a5 : A5) (a6 : A6) (x : X), F rec a1 a2 a3 a4 a5 a6 = some x → P a1 a2 a3 a4 a5 a6 x) : ∀ (n : Nat) (a1 : A1) (a2 : A2) (a3 : A3) (a4 : A4) (a5 : A5) (a6 : A6) (x : X), lq_6 F n a1 a2 a3 a4 a5 a6 = some x → P a1 a2 a3 a4 a5 a6 x := by
  intro n
  induction n with
  | zero => intro a1 a2 a3 a4 a5 a6 x h; cases h
  | succ n ih => intro a1 a2 a3 a4 a5 a6 x h; exact step _ ih a1 a2 a3 a4 a5 a6 x h
def lq_7 {A1 A2 A3 A4 A5 A6 A7 X : Type} (F : (A1 → A2 → A3 → A4 → A5 → A6 → A7 → Option X) → A1 → A2 → A3 → A4 → A5 → A6 → A7 → Option X) : Nat → A1 → A2 → A3 → A4 → A5 → A6 → A7 → Option X
  | 0, _, _, _, _, _, _, _ => none
  | n + 1, a1, a2, a3, a4, a5, a6, a7 => F (lq_7 F n) a1 a2 a3 a4 a5 a6 a7
theorem lq_7_ind {A1 A2 A3 A4 A5 A6 A7 X : Type} {F : (A1 → A2 → A3 → A4 → A5 → A6 → A7 → Option X) → A1 → A2 → A3 → A4 → A5 → A6 → A7 → Option X} {P : A1 → A2 → A3 → A4 → A5 → A6 → A7 → X → Prop} (step : ∀ (rec : A1 → A2 → A3 → A4 → A5 → A6 → A7 → Option X), (∀ (a1 : A1) (a2 : A2) (a3 : A3) (a4 : A4) (a5 : A5) (a6 : A6) (a7 : A7) (x : X), rec a1 a2 a3 a4 a5 a6 a7 = some x → P a1 a2 a3 a4 a5 a6 a7 x) → ∀ (a1 : A1) (a2 : A2) (a3 : A3) (a4 : A4) (a5 : A5) (a6 : A6) (a7 : A7) (x : X), F rec a1 a2 a3 a4 a5 a6 a7 = some x → P a1 a2 a3 a4 a5 a6 a7 x) : ∀ (n : Nat) (a1 : A1) (a2 : A2) (a3 : A3) (a4 : A4) (a5 : A5) (a6 : A6) (a7 : A7) (x : X), lq_7 F n a1 a2 a3 a4 a5 a6 a7 = some x → P a1 a2 a3 a4 a5 a6 a7 x := by
  intro n
  induction n with
  | zero => intro a1 a2 a3 a4 a5 a6 a7 x h; cases h
  | succ n ih => intro a1 a2 a3 a4 a5 a6 a7 x h; exact step _ ih a1 a2 a3 a4 a5 a6 a7 x h
def lq_8 {A1 A2 A3 A4 A5 A6 A7 A8 X : Type} (F : (A1 → A2 → A3 → A4 → A5 → A6 → A7 → A8 → Option X) → A1 → A2 → A3 → A4 → A5 → A6 → A7 → A8 → Option X) : Nat → A1 → A2 → A3 → A4 → A5 → A6 → A7 → A8 → Option X
  | 0, _, _, _, _, _, _, _, _ => none
  | n + 1, a1, a2, a3, a4, a5, a6, a7, a8 => F (lq_8 F n) a1 a2 a3 a4 a5 a6 a7 a8
theorem lq_8_ind {A1 A2 A3 A4 A5 A6 A7 A8 X : Type} {F : (A1 → A2 → A3 → A4 → A5 → A6 → A7 → A8 → Option X) → A1 → A2 → A3 → A4 → A5 → A6 → A7 → A8 → Option X} {P : A1 → A2 → A3 → A4 → A5 → A6 → A7 → A8 → X → Prop} (step : ∀ (rec : A1 → A2 → A3 → A4 → A5 → A6 → A7 → A8 → Option X), (∀ (a1 : A1) (a2 : A2) (a3 : A3) (a4 : A4) (a5 : A5) (a6 : A6) (a7 : A7) (a8 : A8) (x : X), rec a1 a2 a3 a4 a5 a6 a7 a8 = some x → P a1 a2 a3 a4 a5 a6 a7 a8 x) → ∀ (a1 : A1) (a2 : A2) (a3 : A3) (a4 : A4) (a5 : A5) (a6 : A6) (a7 : A7) (a8 : A8) (x : X), F rec a1 a2 a3 a4 a5 a6 a7 a8 = some x → P a1 a2 a3 a4 a5 a6 a7 a8 x) : ∀ (n : Nat) (a1 : A1) (a2 : A2) (a3 : A3) (a4 : A4) (a5 : A5) (a6 : A6) (a7 : A7) (a8 : A8) (x : X), lq_8 F n a1 a2 a3 a4 a5 a6 a7 a8 = some x → P a1 a2 a3 a4 a5 a6 a7 a8 x := by
  intro n
  induction n with
  | zero => intro a1 a2 a3 a4 a5 a6 a7 a8 x h; cases h
  | succ n ih => intro a1 a2 a3 a4 a5 a6 a7 a8 x h; exact step _ ih a1 a2 a3 a4 a5 a6 a7 a8 x h
def lq_9 {A1 A2 A3 A4 A5 A6 A7 A8 A9 X : Type} (F : (A1 → A2 → A3 → A4 → A5 → A6 → A7 → A8 → A9 → Option X) → A1 → A2 → A3 → A4 → A5 → A6 → A7 → A8 → A9 → Option X) : Nat → A1 → A2 → A3 → A4 → A5 → A6 → A7 → A8 → A9 → Option X
  | 0, _, _, _, _, _, _, _, _, _ => none
  | n + 1, a1, a2, a3, a4, a5, a6, a7, a8, a9 => F (lq_9 F n) a1 a2 a3 a4 a5 a6 a7 a8 a9
theorem lq_9_ind {A1 A2 A3 A4 A5 A6 A7 A8 A9 X : Type} {F : (A1 → A2 → A3 → A4 → A5 → A6 → A7 → A8 → A9 → Option X) → A1 → A2 → A3 → A4 → A5 → A6 → A7 → A8 → A9 → Option X} {P : A1 → A2 → A3 → A4 → A5 → A6 → A7 → A8 → A9 → X → Prop} (step : ∀ (rec : A1 → A2 → A3 → A4 → A5 → A6 → A7 → A8 → A9 → Option X), (∀ (a1 : A1) (a2 : A2) (a3 : A3) (a4 : A4) (a5 : A5) (a6 : A6) (a7 : A7) (a8 : A8) (a9 : A9) (x : X), rec a1 a2 a3 a4 a5 a6 a7 a8 a9 = some x → P a1 a2 a3 a4 a5 a6 a7 a8 a9 x) → ∀ (a1 : A1) (a2 : A2) (a3 : A3) (a4 : A4) (a5 : A5) (a6 : A6) (a7 : A7) (a8 : A8) (a9 : A9) (x : X), F rec a1 a2 a3 a4 a5 a6 a7 a8 a9 = some x → P a1 a2 a3 a4 a5 a6 a7 a8 a9 x) : ∀ (n : Nat) (a1 : A1) (a2 : A2) (a3 : A3) (a4 : A4) (a5 : A5) (a6 : A6) (a7 : A7) (a8 : A8) (a9 : A9) (x : X), lq_9 F n a1 a2 a3 a4 a5 a6 a7 a8 a9 = some x → P a1 a2 a3 a4 a5 a6 a7 a8 a9 x := by
  intro n
  induction n with
  | zero => intro a1 a2 a3 a4 a5 a6 a7 a8 a9 x h; cases h
  | succ n ih => intro a1 a2 a3 a4 a5 a6 a7 a8 a9 x h; exact step _ ih a1 a2 a3 a4 a5 a6 a7 a8 a9 x h
def lq_10 {A1 A2 A3 A4 A5 A6 A7 A8 A9 A10 X : Type} (F : (A1 → A2 → A3 → A4 → A5 → A6 → A7 → A8 → A9 → A10 → Option X) → A1 → A2 → A3 → A4 → A5 → A6 → A7 → A8 → A9 → A10 → Option X) : Nat → A1 → A2 → A3 → A4 → A5 → A6 → A7 → A8 → A9 → A10 → Option X
  | 0, _, _, _, _, _, _, _, _, _, _ => none
  | n + 1, a1, a2, a3, a4, a5, a6, a7, a8, a9, a10 => F (lq_10 F n) a1 a2 a3 a4 a5 a6 a7 a8 a9 a10
theorem lq_10_ind {A1 A2 A3 A4 A5 A6 A7 A8 A9 A10 X : Type} {F : (A1 → A2 → A3 → A4 → A5 → A6 → A7 → A8 → A9 → A10 → Option X) → A1 → A2 → A3 → A4 → A5 → A6 → A7 → A8 → A9 → A10 → Option X} {P : A1 → A2 → A3 → A4 → A5 → A6 → A7 → A8 → A9 → A10 → X → Prop} (step : ∀ (rec : A1 → A2 → A3 → A4 → A5 → A6 → A7 → A8 → A9 → A10 → Option X), (∀ (a1 : A1) (a2 : A2) (a3 : A3) (a4 : A4) (a5 : A5) (a6 : A6) (a7 : A7) (a8 : A8) (a9 : A9) (a10 : A10) (x : X), rec a1 a2 a3 a4 a5 a6 a7 a8 a9 a10 = some x → P a1 a2 a3 a4 a5 a6 a7 a8 a9 a10 x) → ∀ (a1 : A1) (a2 : A2) (a3 : A3) (a4 : A4) (a5 : A5) (a6 : A6) (a7 : A7) (a8 : A8) (a9 : A9) (a10 : A10) (x : X), F rec a1 a2 a3 a4 a5 a6 a7 a8 a9 a10 = some x → P a1 a2 a3 a4 a5 a6 a7 a8 a9 a10 x) : ∀ (n : Nat) (a1 : A1) (a2 : A2) (a3 : A3) (a4 : A4) (a5 : A5) (a6 : A6) (a7 : A7) (a8 : A8) (a9 : A9) (a10 : A10) (x : X), lq_10 F n a1 a2 a3 a4 a5 a6 a7 a8 a9 a10 = some x → P a1 a2 a3 a4 a5 a6 a7 a8 a9 a10 x := by
  intro n
  induction n with
  | zero => intro a1 a2 a3 a4 a5 a6 a7 a8 a9 a10 x h; cases h
  | succ n ih => intro a1 a2 a3 a4 a5 a6 a7 a8 a9 a10 x h; exact step _ ih a1 a2 a3 a4 a5 a6 a7 a8 a9 a10 x h
def lq_11 {A1 A2 A3 A4 A5 A6 A7 A8 A9 A10 A11 X : Type} (F : (A1 → A2 → A3 → A4 → A5 → A6 → A7 → A8 → A9 → A10 → A11 → Option X) → A1 → A2 → A3 → A4 → A5 → A6 → A7 → A8 → A9 → A10 → A11 → Option X) : Nat → A1 → A2 → A3 → A4 → A5 → A6 → A7 → A8 → A9 → A10 → A11 → Option X
  | 0, _, _, _, _, _, _, _, _, _, _, _ => none
  | n + 1, a1, a2, a3, a4, a5, a6, a7, a8, a9, a10, a11 => F (lq_11 F n) a1 a2 a3 a4 a5 a6 a7 a8 a9 a10 a11
theorem lq_11_ind {A1 A2 A3 A4 A5 A6 A7 A8 A9 A10 A11 X : Type} {F : (A1 → A2 → A3 → A4 → A5 → A6 → A7 → A8 → A9 → A10 → A11 → Option X) → A1 → A2 → A3 → A4 → A5 → A6 → A7 → A8 → A9 → A10 → A11 → Option X} {P : A1 → A2 → A3 → A4 → A5 → A6 → A7 → A8 → A9 → A10 → A11 → X → Prop} (step : ∀ (rec : A1 → A2 → A3 → A4 → A5 → A6 → A7 → A8 → A9 → A10 → A11 → Option X), (∀ (a1 : A1) (a2 : A2) (a3 : A3) (a4 : A4) (a5 : A5) (a6 : A6) (a7 : A7) (a8 : A8) (a9 : A9) (a10 : A10) (a11 : A11) (x : X), rec a1 a2 a3 a4 a5 a6 a7 a8 a9 a10 a11 = some x → P a1 a2 a3 a4 a5 a6 a7 a8 a9 a10 a11 x) → ∀ (a1 : A1) (a2 : A2) (a3 : A3) (a4 : A4) (a5 : A5) (a6 : A6) (a7 : A7) (a8 : A8) (a9 : A9) (a10 : A10) (a11 : A11) (x : X), F rec a1 a2 a3 a4 a5 a6 a7 a8 a9 a10 a11 = some x → P a1 a2 a3 a4 a5 a6 a7 a8 a9 a10 a11 x) : ∀ (n : Nat) (a1 : A1) (a2 : A2) (a3 : A3) (a4 : A4) (a5 : A5) (a6 : A6) (a7 : A7) (a8 : A8) (a9 : A9) (a10 : A10) (a11 : A11) (x : X), lq_11 F n a1 a2 a3 a4 a5 a6 a7 a8 a9 a10 a11 = some x → P a1 a2 a3 a4 a5 a6 a7 a8 a9 a10 a11 x := by
  intro n
  induction n with
  | zero => intro a1 a2 a3 a4 a5 a6 a7 a8 a9 a10 a11 x h; cases h
  | succ n ih => intro a1 a2 a3 a4 a5 a6 a7 a8 a9 a10 a11 x h; exact step _ ih a1 a2 a3 a4 a5 a6 a7 a8 a9 a10 a11 x h
def lq_12 {A1 A2 A3 A4 A5 A6 A7 A8 A9 A10 A11 A12 X : Type} (F : (A1 → A2 → A3 → A4 → A5 → A6 → A7 → A8 → A9 → A10 → A11 → A12 → Option X) → A1 → A2 → A3 → A4 → A5 → A6 → A7 → A8 → A9 → A10 → A11 → A12 → Option X) : Nat → A1 → A2 → A3 → A4 → A5 → A6 → A7 → A8 → A9 → A10 → A11 → A12 → Option X
  | 0, _, _, _, _, _, _, _, _, _, _, _, _ => none
  | n + 1, a1, a2, a3, a4, a5, a6, a7, a8, a9, a10, a11, a12 => F (lq_12 F n) a1 a2 a3 a4 a5 a6 a7 a8 a9 a10 a11 a12
theorem lq_12_ind {A1 A2 A3 A4 A5 A6 A7 A8 A9 A10 A11 A12 X : Type} {F : (A1 → A2 → A3 → A4 → A5 → A6 → A7 → A8 → A9 → A10 → A11 → A12 → Option X) → A1 → A2 → A3 → A4 → A5 → A6 → A7 → A8 → A9 → A10 → A11 → A12 → Option X} {P : A1 → A2 → A3 → A4 → A5 → A6 → A7 → A8 → A9 → A10 → A11 → A12 → X → Prop} (step : ∀ (rec : A1 → A2 → A3 → A4 → A5 → A6 → A7 → A8 → A9 → A10 → A11 → A12 → Option X), (∀ (a1 : A1) (a2 : A2) (a3 : A3) (a4 : A4) (a5 : A5) (a6 : A6) (a7 : A7) (a8 : A8) (a9 : A9) (a10 : A10) (a11 : A11) (a12 : A12) (x : X), rec a1 a2 a3 a4 a5 a6 a7 a8 a9 a10 a11 a12 = some x → P a1 a2 a3 a4 a5 a6 a7 a8 a9 a10 a11 a12 x) → ∀ (a1 : A1) (a2 : A2) (a3 : A3) (a4 : A4) (a5 : A5) (a6 : A6) (a7 : A7) (a8 : A8) (a9 : A9) (a10 : A10) (a11 : A11) (a12 : A12) (x : X), F rec a1 a2 a3 a4 a5 a6 a7 a8 a9 a10 a11 a12 = some x → P a1 a2 a3 a4 a5 a6 a7 a8 a9 a10 a11 a12 x) : ∀ (n : Nat) (a1 : A1) (a2 : A2) (a3 : A3) (a4 : A4) (a5 : A5) (a6 : A6) (a7 : A7) (a8 : A8) (a9 : A9) (a10 : A10) (a11 : A11) (a12 : A12) (x : X), lq_12 F n a1 a2 a3 a4 a5 a6 a7 a8 a9 a10 a11 a12 = some x → P a1 a2 a3 a4 a5 a6 a7 a8 a9 a10 a11 a12 x := by
  intro n
  induction n with
  | zero => intro a1 a2 a3 a4 a5 a6 a7 a8 a9 a10 a11 a12 x h; cases h
  | succ n ih => intro a1 a2 a3 a4 a5 a6 a7 a8 a9 a10 a11 a12 x h; exact step _ ih a1 a2 a3 a4 a5 a6 a7 a8 a9 a10 a11 a12 x h
def lq_13 {A1 A2 A3 A4 A5 A6 A7 A8 A9 A10 A11 A12 A13 X : Type} (F : (A1 → A2 → A3 → A4 → A5 → A6 → A7 → A8 → A9 → A10 → A11 → A12 → A13 → Option X) → A1 → A2 → A3 → A4 → A5 → A6 → A7 → A8 → A9 → A10 → A11 → A12 → A13 → Option X) : Nat → A1 → A2 → A3 → A4 → A5 → A6 → A7 → A8 → A9 → A10 → A11 → A12 → A13 → Option X
  | 0, _, _, _, _, _, _, _, _, _, _, _, _, _ => none
  | n + 1, a1, a2, a3, a4, a5, a6, a7, a8, a9, a10, a11, a12, a13 => F (lq_13 F n) a1 a2 a3 a4 a5 a6 a7 a8 a9 a10 a11 a12 a13
theorem lq_13_ind {A1 A2 A3 A4 A5 A6 A7 A8 A9 A10 A11 A12 A13 X : Type} {F : (A1 → A2 → A3 → A4 → A5 → A6 → A7 → A8 → A9 → A10 → A11 → A12 → A13 → Option X) → A1 → A2 → A3 → A4 → A5 → A6 → A7 → A8 → A9 → A10 → A11 → A12 → A13 → Option X} {P : A1 → A2 → A3 → A4 → A5 → A6 → A7 → A8 → A9 → A10 → A11 → A12 → A13 → X → Prop} (step : ∀ (rec : A1 → A2 → A3 → A4 → A5 → A6 → A7 → A8 → A9 → A10 → A11 → A12 → A13 → Option X), (∀ (a1 : A1) (a2 : A2) (a3 : A3) (a4 : A4) (a5 : A5) (a6 : A6) (a7 : A7) (a8 : A8) (a9 : A9) (a10 : A10) (a11 : A11) (a12 : A12) (a13 : A13) (x : X), rec a1 a2 a3 a4 a5 a6 a7 a8 a9 a10 a11 a12 a13 = some x → P a1 a2 a3 a4 a5 a6 a7 a8 a9 a10 a11 a12 a13 x) → ∀ (a1 : A1) (a2 : A2) (a3 : A3) (a4 : A4) (a5 : A5) (a6 : A6) (a7 : A7) (a8 : A8) (a9 : A9) (a10 : A10) (a11 : A11) (a12 : A12) (a13 : A13) (x : X), F rec a1 a2 a3 a4 a5 a6 a7 a8 a9 a10 a11 a12 a13 = some x → P a1 a2 a3 a4 a5 a6 a7 a8 a9 a10 a11 a12 a13 x) : ∀ (n : Nat) (a1 : A1) (a2 : A2) (a3 : A3) (a4 : A4) (a5 : A5) (a6 : A6) (a7 : A7) (a8 : A8) (a9 : A9) (a10 : A10) (a11 : A11) (a12 : A12) (a13 : A13) (x : X), lq_13 F n a1 a2 a3 a4 a5 a6 a7 a8 a9 a10 a11 a12 a13 = some x → P a1 a2 a3 a4 a5 a6 a7 a8 a9 a10 a11 a12 a13 x := by
  intro n
  induction n with
  | zero => intro a1 a2 a3 a4 a5 a6 a7 a8 a9 a10 a11 a12 a13 x h; cases h
  | succ n ih => intro a1 a2 a3 a4 a5 a6 a7 a8 a9 a10 a11 a12 a13 x h; exact step _ ih a1 a2 a3 a4 a5 a6 a7 a8 a9 a10 a11 a12 a13 x h
def lq_14 {A1 A2 A3 A4 A5 A6 A7 A8 A9 A10 A11 A12 A13 A14 X : Type} (F : (A1 → A2 → A3 → A4 → A5 → A6 → A7 → A8 → A9 → A10 → A11 → A12 → A13 → A14 → Option X) → A1 → A2 → A3 → A4 → A5 → A6 → A7 → A8 → A9 → A10 → A11 → A12 → A13 → A14 → Option X) : Nat → A1 → A2 → A3 → A4 → A5 → A6 → A7 → A8 → A9 → A10 → A11 → A12 → A13 → A14 → Option X
  | 0, _, _, _, _, _, _, _, _, _, _, _, _, _, _ => none
  | n + 1, a1, a2, a3, a4, a5, a6, a7, a8, a9, a10, a11, a12, a13, a14 => F (lq_14 F n) a1 a2 a3 a4 a5 a6 a7 a8 a9 a10 a11 a12 a13 a14
theorem lq_14_ind {A1 A2 A3 A4 A5 A6 A7 A8 A9 A10 A11 A12 A13 A14 X : Type} {F : (A1 → A2 → A3 → A4 → A5 → A6 → A7 → A8 → A9 → A10 → A11 → A12 → A13 → A14 → Option X) → A1 → A2 → A3 → A4 → A5 → A6 → A7 → A8 → A9 → A10 → A11 → A12 → A13 → A14 → Option X} {P : A1 → A2 → A3 → A4 → A5 → A6 → A7 → A8 → A9 → A10 → A11 → A12 → A13 → A14 → X → Prop} (step : ∀ (rec : A1 → A2 → A3 → A4 → A5 → A6 → A7 → A8 → A9 → A10 → A11 → A12 → A13 → A14 → Option X), (∀ (a1 : A1) (a2 : A2) (a3 : A3) (a4 : A4) (a5 : A5) (a6 : A6) (a7 : A7) (a8 : A8) (a9 : A9) (a10 : A10) (a11 : A11) (a12 : A12) (a13 : A13) (a14 : A14) (x : X), rec a1 a2 a3 a4 a5 a6 a7 a8 a9 a10 a11 a12 a13 a14 = some x → P a1 a2 a3 a4 a5 a6 a7 a8 a9 a10 a11 a12 a13 a14 x) → ∀ (a1 : A1) (a2 : A2) (a3 : A3) (a4 : A4) (a5 : A5) (a6 : A6) (a7 : A7) (a8 : A8) (a9 : A9) (a10 : A10) (a11 : A11) (a12 : A12) (a13 : A13) (a14 : A14) (x : X), F rec a1 a2 a3 a4 a5 a6 a7 a8 a9 a10 a11 a12 a13 a14 = some x → P a1 a2 a3 a4 a5 a6 a7 a8 a9 a10 a11 a12 a13 a14 x) : ∀ (n : Nat) (a1 : A1) (a2 : A2) (a3 : A3) (a4 : A4) (a5 : A5) (a6 : A6) (a7 : A7) (a8 : A8) (a9 : A9) (a10 : A10) (a11 : A11) (a12 : A12) (a13 : A13) (a14 : A14) (x : X), lq_14 F n a1 a2 a3 a4 a5 a6 a7 a8 a9 a10 a11 a12 a13 a14 = some x → P a1 a2 a3 a4 a5 a6 a7 a8 a9 a10 a11 a12 a13 a14 x := by
  intro n
  induction n with
  | zero => intro a1 a2 a3 a4 a5 a6 a7 a8 a9 a10 a11 a12 a13 a14 x h; cases h
  | succ n ih => intro a1 a2 a3 a4 a5 a6 a7 a8 a9 a10 a11 a12 a13 a14 x h; exact step _ ih a1 a2 a3 a4 a5 a6 a7 a8 a9 a10 a11 a12 a13 a14 x h
def lq_15 {A1 A2 A3 A4 A5 A6 A7 A8 A9 A10 A11 A12 A13 A14 A15 X : Type} (F : (A1 → A2 → A3 → A4 → A5 → A6 → A7 → A8 → A9 → A10 → A11 → A12 → A13 → A14 → A15 → Option X) → A1 → A2 → A3 → A4 → A5 → A6 → A7 → A8 → A9 → A10 → A11 → A12 → A13 → A14 → A15 → Option X) : Nat → A1 → A2 → A3 → A4 → A5 → A6 → A7 → A8 → A9 → A10 → A11 → A12 → A13 → A14 → A15 → Option X
  | 0, _, _, _, _, _, _, _, _, _, _, _, _, _, _, _ => none
  | n + 1, a1, a2, a3, a4, a5, a6, a7, a8, a9, a10, a11, a12, a13, a14, a15 => F (lq_15 F n) a1 a2 a3 a4 a5 a6 a7 a8 a9 a10 a11 a12 a13 a14 a15
theorem lq_15_ind {A1 A2 A3 A4 A5 A6 A7 A8 A9 A10 A11 A12 A13 A14 A15 X : Type} {F : (A1 → A2 → A3 → A4 → A5 → A6 → A7 → A8 → A9 → A10 → A11 → A12 → A13 → A14 → A15 → Option X) → A1 → A2 → A3 → A4 → A5 → A6 → A7 → A8 → A9 → A10 → A11 → A12 → A13 → A14 → A15 → Option X} {P : A1 → A2 → A3 → A4 → A5 → A6 → A7 → A8 → A9 → A10 → A11 → A12 → A13 → A14 → A15 → X → Prop} (step : ∀ (rec : A1 → A2 → A3 → A4 → A5 → A6 → A7 → A8 → A9 → A10 → A11 → A12 → A13 → A14 → A15 → Option X), (∀ (a1 : A1) (a2 : A2) (a3 : A3) (a4 : A4) (a5 : A5) (a6 : A6) (a7 : A7) (a8 : A8) (a9 : A9) (a10 : A10) (a11 : A11) (a12 : A12) (a13 : A13) (a14 : A14) (a15 : A15) (x : X), rec a1 a2 a3 a4 a5 a6 a7 a8 a9 a10 a11 a12 a13 a14 a15 = some x → P a1 a2 a3 a4 a5 a6 a7 a8 a9 a10 a11 a12 a13 a14 a15 x) → ∀ (a1 : A1) (a2 : A2) (a3 : A3) (a4 : A4) (a5 : A5) (a6 : A6) (a7 : A7) (a8 : A8) (a9 : A9) (a10 : A10) (a11 : A11) (a12 : A12) (a13 : A13) (a14 : A14) (a15 : A15) (x : X), F rec a1 a2 a3 a4 a5 a6 a7 a8 a9 a10 a11 a12 a13 a14 a15 = some x → P a1 a2 a3 a4 a5 a6 a7 a8 a9 a10 a11 a12 a13 a14 a15 x) : ∀ (n : Nat) (a1 : A1) (a2 : A2) (a3 : A3) (a4 : A4) (a5 : A5) (a6 : A6) (a7 : A7) (a8 : A8) (a9 : A9) (a10 : A10) (a11 : A11) (a12 : A12) (a13 : A13) (a14 : A14) (a15 : A15) (x : X), lq_15 F n a1 a2 a3 a4 a5 a6 a7 a8 a9 a10 a11 a12 a13 a14 a15 = some x → P a1 a2 a3 a4 a5 a6 a7 a8 a9 a10 a11 a12 a13 a14 a15 x := by
  intro n
  induction n with
  | zero => intro a1 a2 a3 a4 a5 a6 a7 a8 a9 a10 a11 a12 a13 a14 a15 x h; cases h
  | succ n ih => intro a1 a2 a3 a4 a5 a6 a7 a8 a9 a10 a11 a12 a13 a14 a15 x h; exact step _ ih a1 a2 a3 a4 a5 a6 a7 a8 a9 a10 a11 a12 a13 a14 a15 x h
def lq_16 {A1 A2 A3 A4 A5 A6 A7 A8 A9 A10 A11 A12 A13 A14 A15 A16 X : Type} (F : (A1 → A2 → A3 → A4 → A5 → A6 → A7 → A8 → A9 → A10 → A11 → A12 → A13 → A14 → A15 → A16 → Option X) → A1 → A2 → A3 → A4 → A5 → A6 → A7 → A8 → A9 → A10 → A11 → A12 → A13 → A14 → A15 → A16 → Option X) : Nat → A1 → A2 → A3 → A4 → A5 → A6 → A7 → A8 → A9 → A10 → A11 → A12 → A13 → A14 → A15 → A16 → Option X
  | 0, _, _, _, _, _, _, _, _, _, _, _, _, _, _, _, _ => none
  | n + 1, a1, a2, a3, a4, a5, a6, a7, a8, a9, a10, a11, a12, a13, a14, a15, a16 => F (lq_16 F n) a1 a2 a3 a4 a5 a6 a7 a8 a9 a10 a11 a12 a13 a14 a15 a16
theorem lq_16_ind {A1 A2 A3 A4 A5 A6 A7 A8 A9 A10 A11 A12 A13 A14 A15 A16 X : Type} {F : (A1 → A2 → A3 → A4 → A5 → A6 → A7 → A8 → A9 → A10 → A11 → A12 → A13 → A14 → A15 → A16 → Option X) → A1 → A2 → A3 → A4 → A5 → A6 → A7 → A8 → A9 → A10 → A11 → A12 → A13 → A14 → A15 → A16 → Option X} {P : A1 → A2 → A3 → A4 → A5 → A6 → A7 → A8 → A9 → A10 → A11 → A12 → A13 → A14 → A15 → A16 → X → Prop} (step : ∀ (rec : A1 → A2 → A3 → A4 → A5 → A6 → A7 → A8 → A9 → A10 → A11 → A12 → A13 → A14 → A15 → A16 → Option X), (∀ (a1 : A1) (a2 : A2) (a3 : A3) (a4 : A4) (a5 : A5) (a6 : A6) (a7 : A7) (a8 : A8) (a9 : A9) (a10 : A10) (a11 : A11) (a12 : A12) (a13 : A13) (a14 : A14) (a15 : A15) (a16 : A16) (x : X), rec a1 a2 a3 a4 a5 a6 a7 a8 a9 a10 a11 a12 a13 a14 a15 a16 = some x → P a1 a2 a3 a4 a5 a6 a7 a8 a9 a10 a11 a12 a13 a14 a15 a16 x) → ∀ (a1 : A1) (a2 : A2) (a3 : A3) (a4 : A4) (a5 : A5) (a6 : A6) (a7 : A7) (a8 : A8) (a9 : A9) (a10 : A10) (a11 : A11) (a12 : A12) (a13 : A13) (a14 : A14) (a15 : A15) (a16 : A16) (x : X), F rec a1 a2 a3 a4 a5 a6 a7 a8 a9 a10 a11 a12 a13 a14 a15 a16 = some x → P a1 a2 a3 a4 a5 a6 a7 a8 a9 a10 a11 a12 a13 a14 a15 a16 x) : ∀ (n : Nat) (a1 : A1) (a2 : A2) (a3 : A3) (a4 : A4) (a5 : A5) (a6 : A6) (a7 : A7) (a8 : A8) (a9 : A9) (a10 : A10) (a11 : A11) (a12 : A12) (a13 : A13) (a14 : A14) (a15 : A15) (a16 : A16) (x : X), lq_16 F n a1 a2 a3 a4 a5 a6 a7 a8 a9 a10 a11 a12 a13 a14 a15 a16 = some x → P a1 a2 a3 a4 a5 a6 a7 a8 a9 a10 a11 a12 a13 a14 a15 a16 x := by
  intro n
  induction n with
  | zero => intro a1 a2 a3 a4 a5 a6 a7 a8 a9 a10 a11 a12 a13 a14 a15 a16 x h; cases h
  | succ n ih => intro a1 a2 a3 a4 a5 a6 a7 a8 a9 a10 a11 a12 a13 a14 a15 a16 x h; exact step _ ih a1 a2 a3 a4 a5 a6 a7 a8 a9 a10 a11 a12 a13 a14 a15 a16 x h
abbrev TS : Type := Int32 × Int32 × (Nat → Int32) × (Nat → Int32) × (Nat → Int32) × (Nat → Int32) × (Nat → Int32) × (Nat → Int32) × (Nat → Int32)
def S_sl (u : TS) : Int32 := u.1
def S_jb (u : TS) : Int32 := u.2.1
def S_nu (u : TS) : (Nat → Int32) := u.2.2.1
def S_lv (u : TS) : (Nat → Int32) := u.2.2.2.1
def S_fo (u : TS) : (Nat → Int32) := u.2.2.2.2.1
def S_se (u : TS) : (Nat → Int32) := u.2.2.2.2.2.1
def S_li (u : TS) : (Nat → Int32) := u.2.2.2.2.2.2.1
def S_jr (u : TS) : (Nat → Int32) := u.2.2.2.2.2.2.2.1
def S_ac (u : TS) : (Nat → Int32) := u.2.2.2.2.2.2.2.2
def S_sl_ (u : TS) (x : Int32) : TS := (x, u.2.1, u.2.2.1, u.2.2.2.1, u.2.2.2.2.1, u.2.2.2.2.2.1, u.2.2.2.2.2.2.1, u.2.2.2.2.2.2.2.1, u.2.2.2.2.2.2.2.2)
def S_jb_ (u : TS) (x : Int32) : TS := (u.1, x, u.2.2.1, u.2.2.2.1, u.2.2.2.2.1, u.2.2.2.2.2.1, u.2.2.2.2.2.2.1, u.2.2.2.2.2.2.2.1, u.2.2.2.2.2.2.2.2)
def S_nu_ (u : TS) (x : (Nat → Int32)) : TS := (u.1, u.2.1, x, u.2.2.2.1, u.2.2.2.2.1, u.2.2.2.2.2.1, u.2.2.2.2.2.2.1, u.2.2.2.2.2.2.2.1, u.2.2.2.2.2.2.2.2)
def S_lv_ (u : TS) (x : (Nat → Int32)) : TS := (u.1, u.2.1, u.2.2.1, x, u.2.2.2.2.1, u.2.2.2.2.2.1, u.2.2.2.2.2.2.1, u.2.2.2.2.2.2.2.1, u.2.2.2.2.2.2.2.2)
def S_fo_ (u : TS) (x : (Nat → Int32)) : TS := (u.1, u.2.1, u.2.2.1, u.2.2.2.1, x, u.2.2.2.2.2.1, u.2.2.2.2.2.2.1, u.2.2.2.2.2.2.2.1, u.2.2.2.2.2.2.2.2)
def S_se_ (u : TS) (x : (Nat → Int32)) : TS := (u.1, u.2.1, u.2.2.1, u.2.2.2.1, u.2.2.2.2.1, x, u.2.2.2.2.2.2.1, u.2.2.2.2.2.2.2.1, u.2.2.2.2.2.2.2.2)
def S_li_ (u : TS) (x : (Nat → Int32)) : TS := (u.1, u.2.1, u.2.2.1, u.2.2.2.1, u.2.2.2.2.1, u.2.2.2.2.2.1, x, u.2.2.2.2.2.2.2.1, u.2.2.2.2.2.2.2.2)
def S_jr_ (u : TS) (x : (Nat → Int32)) : TS := (u.1, u.2.1, u.2.2.1, u.2.2.2.1, u.2.2.2.2.1, u.2.2.2.2.2.1, u.2.2.2.2.2.2.1, x, u.2.2.2.2.2.2.2.2)
def S_ac_ (u : TS) (x : (Nat → Int32)) : TS := (u.1, u.2.1, u.2.2.1, u.2.2.2.1, u.2.2.2.2.1, u.2.2.2.2.2.1, u.2.2.2.2.2.2.1, u.2.2.2.2.2.2.2.1, x)
theorem S_sl_sl (u : TS) (x : Int32) : S_sl (S_sl_ u x) = x := rfl
theorem S_sl_jb (u : TS) (x : Int32) : S_jb (S_sl_ u x) = S_jb u := rfl
theorem S_sl_nu (u : TS) (x : Int32) : S_nu (S_sl_ u x) = S_nu u := rfl
theorem S_sl_lv (u : TS) (x : Int32) : S_lv (S_sl_ u x) = S_lv u := rfl
theorem S_sl_fo (u : TS) (x : Int32) : S_fo (S_sl_ u x) = S_fo u := rfl
theorem S_sl_se (u : TS) (x : Int32) : S_se (S_sl_ u x) = S_se u := rfl
theorem S_sl_li (u : TS) (x : Int32) : S_li (S_sl_ u x) = S_li u := rfl
theorem S_sl_jr (u : TS) (x : Int32) : S_jr (S_sl_ u x) = S_jr u := rfl
theorem S_sl_ac (u : TS) (x : Int32) : S_ac (S_sl_ u x) = S_ac u := rfl
theorem S_jb_sl (u : TS) (x : Int32) : S_sl (S_jb_ u x) = S_sl u := rfl
theorem S_jb_jb (u : TS) (x : Int32) : S_jb (S_jb_ u x) = x := rfl
theorem S_jb_nu (u : TS) (x : Int32) : S_nu (S_jb_ u x) = S_nu u := rfl
theorem S_jb_lv (u : TS) (x : Int32) : S_lv (S_jb_ u x) = S_lv u := rfl
theorem S_jb_fo (u : TS) (x : Int32) : S_fo (S_jb_ u x) = S_fo u := rfl
theorem S_jb_se (u : TS) (x : Int32) : S_se (S_jb_ u x) = S_se u := rfl
theorem S_jb_li (u : TS) (x : Int32) : S_li (S_jb_ u x) = S_li u := rfl
theorem S_jb_jr (u : TS) (x : Int32) : S_jr (S_jb_ u x) = S_jr u := rfl
theorem S_jb_ac (u : TS) (x : Int32) : S_ac (S_jb_ u x) = S_ac u := rfl
theorem S_nu_sl (u : TS) (x : (Nat → Int32)) : S_sl (S_nu_ u x) = S_sl u := rfl
theorem S_nu_jb (u : TS) (x : (Nat → Int32)) : S_jb (S_nu_ u x) = S_jb u := rfl
theorem S_nu_nu (u : TS) (x : (Nat → Int32)) : S_nu (S_nu_ u x) = x := rfl
theorem S_nu_lv (u : TS) (x : (Nat → Int32)) : S_lv (S_nu_ u x) = S_lv u := rfl
theorem S_nu_fo (u : TS) (x : (Nat → Int32)) : S_fo (S_nu_ u x) = S_fo u := rfl
theorem S_nu_se (u : TS) (x : (Nat → Int32)) : S_se (S_nu_ u x) = S_se u := rfl
theorem S_nu_li (u : TS) (x : (Nat → Int32)) : S_li (S_nu_ u x) = S_li u := rfl
theorem S_nu_jr (u : TS) (x : (Nat → Int32)) : S_jr (S_nu_ u x) = S_jr u := rfl
theorem S_nu_ac (u : TS) (x : (Nat → Int32)) : S_ac (S_nu_ u x) = S_ac u := rfl
theorem S_lv_sl (u : TS) (x : (Nat → Int32)) : S_sl (S_lv_ u x) = S_sl u := rfl
theorem S_lv_jb (u : TS) (x : (Nat → Int32)) : S_jb (S_lv_ u x) = S_jb u := rfl
theorem S_lv_nu (u : TS) (x : (Nat → Int32)) : S_nu (S_lv_ u x) = S_nu u := rfl
theorem S_lv_lv (u : TS) (x : (Nat → Int32)) : S_lv (S_lv_ u x) = x := rfl
theorem S_lv_fo (u : TS) (x : (Nat → Int32)) : S_fo (S_lv_ u x) = S_fo u := rfl
theorem S_lv_se (u : TS) (x : (Nat → Int32)) : S_se (S_lv_ u x) = S_se u := rfl
theorem S_lv_li (u : TS) (x : (Nat → Int32)) : S_li (S_lv_ u x) = S_li u := rfl
theorem S_lv_jr (u : TS) (x : (Nat → Int32)) : S_jr (S_lv_ u x) = S_jr u := rfl
theorem S_lv_ac (u : TS) (x : (Nat → Int32)) : S_ac (S_lv_ u x) = S_ac u := rfl
theorem S_fo_sl (u : TS) (x : (Nat → Int32)) : S_sl (S_fo_ u x) = S_sl u := rfl
theorem S_fo_jb (u : TS) (x : (Nat → Int32)) : S_jb (S_fo_ u x) = S_jb u := rfl
theorem S_fo_nu (u : TS) (x : (Nat → Int32)) : S_nu (S_fo_ u x) = S_nu u := rfl
theorem S_fo_lv (u : TS) (x : (Nat → Int32)) : S_lv (S_fo_ u x) = S_lv u := rfl
theorem S_fo_fo (u : TS) (x : (Nat → Int32)) : S_fo (S_fo_ u x) = x := rfl
theorem S_fo_se (u : TS) (x : (Nat → Int32)) : S_se (S_fo_ u x) = S_se u := rfl
theorem S_fo_li (u : TS) (x : (Nat → Int32)) : S_li (S_fo_ u x) = S_li u := rfl
theorem S_fo_jr (u : TS) (x : (Nat → Int32)) : S_jr (S_fo_ u x) = S_jr u := rfl
theorem S_fo_ac (u : TS) (x : (Nat → Int32)) : S_ac (S_fo_ u x) = S_ac u := rfl
theorem S_se_sl (u : TS) (x : (Nat → Int32)) : S_sl (S_se_ u x) = S_sl u := rfl
theorem S_se_jb (u : TS) (x : (Nat → Int32)) : S_jb (S_se_ u x) = S_jb u := rfl
theorem S_se_nu (u : TS) (x : (Nat → Int32)) : S_nu (S_se_ u x) = S_nu u := rfl
theorem S_se_lv (u : TS) (x : (Nat → Int32)) : S_lv (S_se_ u x) = S_lv u := rfl
theorem S_se_fo (u : TS) (x : (Nat → Int32)) : S_fo (S_se_ u x) = S_fo u := rfl
theorem S_se_se (u : TS) (x : (Nat → Int32)) : S_se (S_se_ u x) = x := rfl
theorem S_se_li (u : TS) (x : (Nat → Int32)) : S_li (S_se_ u x) = S_li u := rfl
theorem S_se_jr (u : TS) (x : (Nat → Int32)) : S_jr (S_se_ u x) = S_jr u := rfl
theorem S_se_ac (u : TS) (x : (Nat → Int32)) : S_ac (S_se_ u x) = S_ac u := rfl
theorem S_li_sl (u : TS) (x : (Nat → Int32)) : S_sl (S_li_ u x) = S_sl u := rfl
theorem S_li_jb (u : TS) (x : (Nat → Int32)) : S_jb (S_li_ u x) = S_jb u := rfl
theorem S_li_nu (u : TS) (x : (Nat → Int32)) : S_nu (S_li_ u x) = S_nu u := rfl
theorem S_li_lv (u : TS) (x : (Nat → Int32)) : S_lv (S_li_ u x) = S_lv u := rfl
theorem S_li_fo (u : TS) (x : (Nat → Int32)) : S_fo (S_li_ u x) = S_fo u := rfl
theorem S_li_se (u : TS) (x : (Nat → Int32)) : S_se (S_li_ u x) = S_se u := rfl
theorem S_li_li (u : TS) (x : (Nat → Int32)) : S_li (S_li_ u x) = x := rfl
theorem S_li_jr (u : TS) (x : (Nat → Int32)) : S_jr (S_li_ u x) = S_jr u := rfl
theorem S_li_ac (u : TS) (x : (Nat → Int32)) : S_ac (S_li_ u x) = S_ac u := rfl
theorem S_jr_sl (u : TS) (x : (Nat → Int32)) : S_sl (S_jr_ u x) = S_sl u := rfl
theorem S_jr_jb (u : TS) (x : (Nat → Int32)) : S_jb (S_jr_ u x) = S_jb u := rfl
theorem S_jr_nu (u : TS) (x : (Nat → Int32)) : S_nu (S_jr_ u x) = S_nu u := rfl
theorem S_jr_lv (u : TS) (x : (Nat → Int32)) : S_lv (S_jr_ u x) = S_lv u := rfl
theorem S_jr_fo (u : TS) (x : (Nat → Int32)) : S_fo (S_jr_ u x) = S_fo u := rfl
theorem S_jr_se (u : TS) (x : (Nat → Int32)) : S_se (S_jr_ u x) = S_se u := rfl
theorem S_jr_li (u : TS) (x : (Nat → Int32)) : S_li (S_jr_ u x) = S_li u := rfl
theorem S_jr_jr (u : TS) (x : (Nat → Int32)) : S_jr (S_jr_ u x) = x := rfl
theorem S_jr_ac (u : TS) (x : (Nat → Int32)) : S_ac (S_jr_ u x) = S_ac u := rfl
theorem S_ac_sl (u : TS) (x : (Nat → Int32)) : S_sl (S_ac_ u x) = S_sl u := rfl
theorem S_ac_jb (u : TS) (x : (Nat → Int32)) : S_jb (S_ac_ u x) = S_jb u := rfl
theorem S_ac_nu (u : TS) (x : (Nat → Int32)) : S_nu (S_ac_ u x) = S_nu u := rfl
theorem S_ac_lv (u : TS) (x : (Nat → Int32)) : S_lv (S_ac_ u x) = S_lv u := rfl
theorem S_ac_fo (u : TS) (x : (Nat → Int32)) : S_fo (S_ac_ u x) = S_fo u := rfl
theorem S_ac_se (u : TS) (x : (Nat → Int32)) : S_se (S_ac_ u x) = S_se u := rfl
theorem S_ac_li (u : TS) (x : (Nat → Int32)) : S_li (S_ac_ u x) = S_li u := rfl
theorem S_ac_jr (u : TS) (x : (Nat → Int32)) : S_jr (S_ac_ u x) = S_jr u := rfl
theorem S_ac_ac (u : TS) (x : (Nat → Int32)) : S_ac (S_ac_ u x) = x := rfl
def wS (cT : Nat → ClassId) (g : Nat → Nat) (b : Nat) (u : TS) : va_W := [(g b, .inr (1, [.int (S_sl u), .int (S_jb u), .ref (g (b + 1)), .ref (g (b + 2)), .ref (g (b + 3)), .ref (g (b + 4)), .ref (g (b + 5)), .ref (g (b + 6)), .ref (g (b + 7))])), (g (b + 1), .inl (cT 0, 8, .inl (S_nu u))), (g (b + 2), .inl (cT 0, 60, .inl (S_lv u))), (g (b + 3), .inl (cT 0, 60, .inl (S_fo u))), (g (b + 4), .inl (cT 0, 60, .inl (S_se u))), (g (b + 5), .inl (cT 0, 60, .inl (S_li u))), (g (b + 6), .inl (cT 0, 24, .inl (S_jr u))), (g (b + 7), .inl (cT 0, 7, .inl (S_ac u)))]
abbrev TV : Type := (Nat → Int32) × (Nat → Int32) × (Nat → Int32) × Int32 × Int32 × Int32 × Int32
def V_he (u : TV) : (Nat → Int32) := u.1
def V_lo (u : TV) : (Nat → Int32) := u.2.1
def V_ha (u : TV) : (Nat → Int32) := u.2.2.1
def V_hc (u : TV) : Int32 := u.2.2.2.1
def V_wo (u : TV) : Int32 := u.2.2.2.2.1
def V_ws (u : TV) : Int32 := u.2.2.2.2.2.1
def V_od (u : TV) : Int32 := u.2.2.2.2.2.2
def V_he_ (u : TV) (x : (Nat → Int32)) : TV := (x, u.2.1, u.2.2.1, u.2.2.2.1, u.2.2.2.2.1, u.2.2.2.2.2.1, u.2.2.2.2.2.2)
def V_lo_ (u : TV) (x : (Nat → Int32)) : TV := (u.1, x, u.2.2.1, u.2.2.2.1, u.2.2.2.2.1, u.2.2.2.2.2.1, u.2.2.2.2.2.2)
def V_ha_ (u : TV) (x : (Nat → Int32)) : TV := (u.1, u.2.1, x, u.2.2.2.1, u.2.2.2.2.1, u.2.2.2.2.2.1, u.2.2.2.2.2.2)
def V_hc_ (u : TV) (x : Int32) : TV := (u.1, u.2.1, u.2.2.1, x, u.2.2.2.2.1, u.2.2.2.2.2.1, u.2.2.2.2.2.2)
def V_wo_ (u : TV) (x : Int32) : TV := (u.1, u.2.1, u.2.2.1, u.2.2.2.1, x, u.2.2.2.2.2.1, u.2.2.2.2.2.2)
def V_ws_ (u : TV) (x : Int32) : TV := (u.1, u.2.1, u.2.2.1, u.2.2.2.1, u.2.2.2.2.1, x, u.2.2.2.2.2.2)
def V_od_ (u : TV) (x : Int32) : TV := (u.1, u.2.1, u.2.2.1, u.2.2.2.1, u.2.2.2.2.1, u.2.2.2.2.2.1, x)
theorem V_he_he (u : TV) (x : (Nat → Int32)) : V_he (V_he_ u x) = x := rfl
theorem V_he_lo (u : TV) (x : (Nat → Int32)) : V_lo (V_he_ u x) = V_lo u := rfl
theorem V_he_ha (u : TV) (x : (Nat → Int32)) : V_ha (V_he_ u x) = V_ha u := rfl
theorem V_he_hc (u : TV) (x : (Nat → Int32)) : V_hc (V_he_ u x) = V_hc u := rfl
theorem V_he_wo (u : TV) (x : (Nat → Int32)) : V_wo (V_he_ u x) = V_wo u := rfl
theorem V_he_ws (u : TV) (x : (Nat → Int32)) : V_ws (V_he_ u x) = V_ws u := rfl
theorem V_he_od (u : TV) (x : (Nat → Int32)) : V_od (V_he_ u x) = V_od u := rfl
theorem V_lo_he (u : TV) (x : (Nat → Int32)) : V_he (V_lo_ u x) = V_he u := rfl
theorem V_lo_lo (u : TV) (x : (Nat → Int32)) : V_lo (V_lo_ u x) = x := rfl
theorem V_lo_ha (u : TV) (x : (Nat → Int32)) : V_ha (V_lo_ u x) = V_ha u := rfl
theorem V_lo_hc (u : TV) (x : (Nat → Int32)) : V_hc (V_lo_ u x) = V_hc u := rfl
theorem V_lo_wo (u : TV) (x : (Nat → Int32)) : V_wo (V_lo_ u x) = V_wo u := rfl
theorem V_lo_ws (u : TV) (x : (Nat → Int32)) : V_ws (V_lo_ u x) = V_ws u := rfl
theorem V_lo_od (u : TV) (x : (Nat → Int32)) : V_od (V_lo_ u x) = V_od u := rfl
theorem V_ha_he (u : TV) (x : (Nat → Int32)) : V_he (V_ha_ u x) = V_he u := rfl
theorem V_ha_lo (u : TV) (x : (Nat → Int32)) : V_lo (V_ha_ u x) = V_lo u := rfl
theorem V_ha_ha (u : TV) (x : (Nat → Int32)) : V_ha (V_ha_ u x) = x := rfl
theorem V_ha_hc (u : TV) (x : (Nat → Int32)) : V_hc (V_ha_ u x) = V_hc u := rfl
theorem V_ha_wo (u : TV) (x : (Nat → Int32)) : V_wo (V_ha_ u x) = V_wo u := rfl
theorem V_ha_ws (u : TV) (x : (Nat → Int32)) : V_ws (V_ha_ u x) = V_ws u := rfl
theorem V_ha_od (u : TV) (x : (Nat → Int32)) : V_od (V_ha_ u x) = V_od u := rfl
theorem V_hc_he (u : TV) (x : Int32) : V_he (V_hc_ u x) = V_he u := rfl
theorem V_hc_lo (u : TV) (x : Int32) : V_lo (V_hc_ u x) = V_lo u := rfl
theorem V_hc_ha (u : TV) (x : Int32) : V_ha (V_hc_ u x) = V_ha u := rfl
theorem V_hc_hc (u : TV) (x : Int32) : V_hc (V_hc_ u x) = x := rfl
theorem V_hc_wo (u : TV) (x : Int32) : V_wo (V_hc_ u x) = V_wo u := rfl
theorem V_hc_ws (u : TV) (x : Int32) : V_ws (V_hc_ u x) = V_ws u := rfl
theorem V_hc_od (u : TV) (x : Int32) : V_od (V_hc_ u x) = V_od u := rfl
theorem V_wo_he (u : TV) (x : Int32) : V_he (V_wo_ u x) = V_he u := rfl
theorem V_wo_lo (u : TV) (x : Int32) : V_lo (V_wo_ u x) = V_lo u := rfl
theorem V_wo_ha (u : TV) (x : Int32) : V_ha (V_wo_ u x) = V_ha u := rfl
theorem V_wo_hc (u : TV) (x : Int32) : V_hc (V_wo_ u x) = V_hc u := rfl
theorem V_wo_wo (u : TV) (x : Int32) : V_wo (V_wo_ u x) = x := rfl
theorem V_wo_ws (u : TV) (x : Int32) : V_ws (V_wo_ u x) = V_ws u := rfl
theorem V_wo_od (u : TV) (x : Int32) : V_od (V_wo_ u x) = V_od u := rfl
theorem V_ws_he (u : TV) (x : Int32) : V_he (V_ws_ u x) = V_he u := rfl
theorem V_ws_lo (u : TV) (x : Int32) : V_lo (V_ws_ u x) = V_lo u := rfl
theorem V_ws_ha (u : TV) (x : Int32) : V_ha (V_ws_ u x) = V_ha u := rfl
theorem V_ws_hc (u : TV) (x : Int32) : V_hc (V_ws_ u x) = V_hc u := rfl
theorem V_ws_wo (u : TV) (x : Int32) : V_wo (V_ws_ u x) = V_wo u := rfl
theorem V_ws_ws (u : TV) (x : Int32) : V_ws (V_ws_ u x) = x := rfl
theorem V_ws_od (u : TV) (x : Int32) : V_od (V_ws_ u x) = V_od u := rfl
theorem V_od_he (u : TV) (x : Int32) : V_he (V_od_ u x) = V_he u := rfl
theorem V_od_lo (u : TV) (x : Int32) : V_lo (V_od_ u x) = V_lo u := rfl
theorem V_od_ha (u : TV) (x : Int32) : V_ha (V_od_ u x) = V_ha u := rfl
theorem V_od_hc (u : TV) (x : Int32) : V_hc (V_od_ u x) = V_hc u := rfl
theorem V_od_wo (u : TV) (x : Int32) : V_wo (V_od_ u x) = V_wo u := rfl
theorem V_od_ws (u : TV) (x : Int32) : V_ws (V_od_ u x) = V_ws u := rfl
theorem V_od_od (u : TV) (x : Int32) : V_od (V_od_ u x) = x := rfl
def wV (cT : Nat → ClassId) (g : Nat → Nat) (b : Nat) (t : Nat) (u : TV) : va_W := [(g b, .inr (2, [.ref (g t), .ref (g (b + 1)), .ref (g (b + 2)), .ref (g (b + 3)), .int (V_hc u), .int (V_wo u), .int (V_ws u), .int (V_od u)])), (g (b + 1), .inl (cT 0, 60, .inl (V_he u))), (g (b + 2), .inl (cT 0, 60, .inl (V_lo u))), (g (b + 3), .inl (cT 1, 60, .inl (V_ha u)))]
abbrev TX : Type := (Nat → Int32) × Int32 × Int32 × Int32
def X_ch (u : TX) : (Nat → Int32) := u.1
def X_ln (u : TX) : Int32 := u.2.1
def X_ep (u : TX) : Int32 := u.2.2.1
def X_po (u : TX) : Int32 := u.2.2.2
def X_ch_ (u : TX) (x : (Nat → Int32)) : TX := (x, u.2.1, u.2.2.1, u.2.2.2)
def X_ln_ (u : TX) (x : Int32) : TX := (u.1, x, u.2.2.1, u.2.2.2)
def X_ep_ (u : TX) (x : Int32) : TX := (u.1, u.2.1, x, u.2.2.2)
def X_po_ (u : TX) (x : Int32) : TX := (u.1, u.2.1, u.2.2.1, x)
theorem X_ch_ch (u : TX) (x : (Nat → Int32)) : X_ch (X_ch_ u x) = x := rfl
theorem X_ch_ln (u : TX) (x : (Nat → Int32)) : X_ln (X_ch_ u x) = X_ln u := rfl
theorem X_ch_ep (u : TX) (x : (Nat → Int32)) : X_ep (X_ch_ u x) = X_ep u := rfl
theorem X_ch_po (u : TX) (x : (Nat → Int32)) : X_po (X_ch_ u x) = X_po u := rfl
theorem X_ln_ch (u : TX) (x : Int32) : X_ch (X_ln_ u x) = X_ch u := rfl
theorem X_ln_ln (u : TX) (x : Int32) : X_ln (X_ln_ u x) = x := rfl
theorem X_ln_ep (u : TX) (x : Int32) : X_ep (X_ln_ u x) = X_ep u := rfl
theorem X_ln_po (u : TX) (x : Int32) : X_po (X_ln_ u x) = X_po u := rfl
theorem X_ep_ch (u : TX) (x : Int32) : X_ch (X_ep_ u x) = X_ch u := rfl
theorem X_ep_ln (u : TX) (x : Int32) : X_ln (X_ep_ u x) = X_ln u := rfl
theorem X_ep_ep (u : TX) (x : Int32) : X_ep (X_ep_ u x) = x := rfl
theorem X_ep_po (u : TX) (x : Int32) : X_po (X_ep_ u x) = X_po u := rfl
theorem X_po_ch (u : TX) (x : Int32) : X_ch (X_po_ u x) = X_ch u := rfl
theorem X_po_ln (u : TX) (x : Int32) : X_ln (X_po_ u x) = X_ln u := rfl
theorem X_po_ep (u : TX) (x : Int32) : X_ep (X_po_ u x) = X_ep u := rfl
theorem X_po_po (u : TX) (x : Int32) : X_po (X_po_ u x) = x := rfl
def wX (cT : Nat → ClassId) (g : Nat → Nat) (b : Nat) (u : TX) : va_W := [(g b, .inr (3, [.ref (g (b + 1)), .int (X_ln u), .int (X_ep u), .int (X_po u)])), (g (b + 1), .inl (cT 0, 100, .inl (X_ch u)))]
abbrev TH : Type := Int32 × Int32
def H_ol (u : TH) : Int32 := u.1
def H_sz (u : TH) : Int32 := u.2
def H_ol_ (u : TH) (x : Int32) : TH := (x, u.2)
def H_sz_ (u : TH) (x : Int32) : TH := (u.1, x)
theorem H_ol_ol (u : TH) (x : Int32) : H_ol (H_ol_ u x) = x := rfl
theorem H_ol_sz (u : TH) (x : Int32) : H_sz (H_ol_ u x) = H_sz u := rfl
theorem H_sz_ol (u : TH) (x : Int32) : H_ol (H_sz_ u x) = H_ol u := rfl
theorem H_sz_sz (u : TH) (x : Int32) : H_sz (H_sz_ u x) = x := rfl
def wH (cT : Nat → ClassId) (g : Nat → Nat) (b : Nat) (u : TH) : va_W := [(g b, .inr (0, [.ref (g (b + 1)), .int (H_ol u), .int (H_sz u)])), (g (b + 1), .inl (cT 3, 6, .inr (.inr (.inr (.inr (fun i => some (g (b + (2 + 8 * i)))))))))]
def wT (g : Nat → Nat) : va_W := [(g 0, .inr (4, [.ref (g 1), .ref (g 9), .ref (g 13), .ref (g 21), .ref (g 25), .ref (g 75), .ref (g 77), .ref (g 94)]))]
def wI (cT : Nat → ClassId) (g : Nat → Nat) (b : Nat) : va_W := [(g b, .inl (cT 3, 2, .inr (.inr (.inr (.inr (fun i => some (g (b + (1 + 8 * i)))))))))]
def wK (cT : Nat → ClassId) (g : Nat → Nat) (b : Nat) (u : (Nat → Int32)) : va_W := [(g b, .inl (cT 1, 2, .inl u))]
def wA (cT : Nat → ClassId) (g : Nat → Nat) (b : Nat) (na : Nat) (u : (Nat → Int32)) : va_W := [(g b, .inl (cT 0, na, .inl u))]
