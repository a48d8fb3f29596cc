def insL (κ : Nat → Int) (x : Nat) : List Nat → List Nat
  | [] => [x]
  | a :: r => if κ a ≤ κ x then x :: a :: r else a :: insL κ x r
def srt (κ : Nat → Int) (P : Nat → Bool) : Nat → List Nat
  | 0 => []
  | n + 1 => if P n = true then insL κ n (srt κ P n) else srt κ P n
def dsc (κ : Nat → Int) : List Nat → Prop
  | [] => True
  | a :: r => (∀ x, x ∈ r → κ x ≤ κ a) ∧ dsc κ r
theorem insL_len (κ : Nat → Int) (x : Nat) : ∀ l, (insL κ x l).length = l.length + 1 := by
  intro l
  induction l with
  | nil => rfl
  | cons a r ih =>
    rw [insL]
    split
    · rfl
    · rw [List.length_cons, ih, List.length_cons]
theorem insL_mem {κ : Nat → Int} {x y : Nat} : ∀ {l : List Nat}, y ∈ insL κ x l → y = x ∨ y ∈ l := by
  intro l
  induction l with
  | nil => intro h; rw [insL, List.mem_singleton] at h; exact Or.inl h
  | cons a r ih =>
    intro h
    rw [insL] at h
    split at h
    · rcases List.mem_cons.mp h with q | q
      · exact Or.inl q
      · exact Or.inr q
    · rcases List.mem_cons.mp h with q | q
      · exact Or.inr (List.mem_cons.mpr (Or.inl q))
      · rcases ih q with q | q
        · exact Or.inl q
        · exact Or.inr (List.mem_cons.mpr (Or.inr q))
theorem dsc_ins {κ : Nat → Int} {x : Nat} : ∀ {l : List Nat}, dsc κ l → dsc κ (insL κ x l) := by
  intro l
  induction l with
  | nil => intro _; rw [insL]; exact ⟨fun y hy => by simp at hy, trivial⟩
  | cons a r ih =>
    intro h
    obtain ⟨h1, h2⟩ := h
    rw [insL]
    by_cases c : κ a ≤ κ x
    · rw [if_pos c]
      refine ⟨fun y hy => ?_, h1, h2⟩
      rcases List.mem_cons.mp hy with q | q
      · rw [q]; exact c
      · exact Int.le_trans (h1 y q) c
    · rw [if_neg c]
      refine ⟨fun y hy => ?_, ih h2⟩
      rcases insL_mem hy with q | q
      · rw [q]; omega
      · exact h1 y q
theorem dsc_srt (κ : Nat → Int) (P : Nat → Bool) : ∀ n, dsc κ (srt κ P n) := by
  intro n
  induction n with
  | zero => trivial
  | succ n ih =>
    rw [srt]
    split
    · exact dsc_ins ih
    · exact ih
theorem srt_mem {κ : Nat → Int} {P : Nat → Bool} {x : Nat} : ∀ {n : Nat}, x ∈ srt κ P n → x < n ∧ P x = true := by
  intro n
  induction n with
  | zero => intro h; simp [srt] at h
  | succ n ih =>
    intro h
    rw [srt] at h
    by_cases c : P n = true
    · rw [if_pos c] at h
      rcases insL_mem h with q | q
      · rw [q]; exact ⟨by omega, c⟩
      · have := ih q; exact ⟨by omega, this.2⟩
    · rw [if_neg c] at h
      have := ih h; exact ⟨by omega, this.2⟩
theorem srt_len (κ : Nat → Int) (P : Nat → Bool) : ∀ n, (srt κ P n).length ≤ n := by
  intro n
  induction n with
  | zero => exact Nat.le_refl _
  | succ n ih =>
    rw [srt]
    split
    · rw [insL_len]; omega
    · omega
theorem ins_top {κ : Nat → Int} {x : Nat} {l : List Nat} (h : ∀ y, y ∈ l → κ y ≤ κ x) : insL κ x l = x :: l := by
  cases l with
  | nil => rfl
  | cons a r => rw [insL, if_pos (h a (by simp))]
theorem ins_filter {κ : Nat → Int} {x : Nat} {Q : Nat → Bool} : ∀ {l : List Nat}, dsc κ l → (insL κ x l).filter Q = if Q x = true then insL κ x (l.filter Q) else l.filter Q := by
  intro l
  induction l with
  | nil => intro _; cases c : Q x <;> simp [insL, c]
  | cons a r ih =>
    intro h
    obtain ⟨h1, h2⟩ := h
    rw [insL]
    by_cases c : κ a ≤ κ x
    · rw [if_pos c]
      have ht : insL κ x ((a :: r).filter Q) = x :: (a :: r).filter Q := ins_top (fun y hy => by
        rcases List.mem_cons.mp (List.mem_filter.mp hy).1 with q | q
        · rw [q]; exact c
        · exact Int.le_trans (h1 y q) c)
      rw [ht, List.filter_cons]
    · rw [if_neg c, List.filter_cons, ih h2]
      by_cases qa : Q a = true
      · rw [if_pos qa, List.filter_cons, if_pos qa, insL, if_neg c]
        split <;> rfl
      · rw [if_neg qa, List.filter_cons, if_neg qa]
theorem srt_filter (κ : Nat → Int) (P Q : Nat → Bool) : ∀ n, (srt κ P n).filter Q = srt κ (fun f => P f && Q f) n := by
  intro n
  induction n with
  | zero => rfl
  | succ n ih =>
    rw [srt, srt, ← ih]
    by_cases c : P n = true
    · rw [if_pos c, ins_filter (dsc_srt κ P n)]
      by_cases q : Q n = true
      · rw [if_pos q, if_pos (by rw [c, q]; rfl)]
      · rw [if_neg q, if_neg (by rw [c]; simpa using q)]
    · rw [if_neg c, if_neg (by simp at c; rw [c]; simp)]
theorem srt_congr {κ : Nat → Int} {P Q : Nat → Bool} : ∀ {n : Nat}, (∀ f, f < n → P f = Q f) → srt κ P n = srt κ Q n := by
  intro n
  induction n with
  | zero => intro _; rfl
  | succ n ih => intro h; rw [srt, srt, h n (by omega), ih (fun f hf => h f (by omega))]
theorem ins_a1 {κ : Nat → Int} {x : Nat} {B : List Nat} (hB : ∀ y, y ∈ B → κ y ≤ κ x) : ∀ A, insL κ x (A ++ B) = insL κ x A ++ B := by
  intro A
  induction A with
  | nil => rw [List.nil_append, ins_top hB]; rfl
  | cons a r ih =>
    rw [List.cons_append, insL, insL]
    split
    · rfl
    · rw [ih]; rfl
theorem ins_a2 {κ : Nat → Int} {x : Nat} {B : List Nat} : ∀ {A : List Nat}, (∀ y, y ∈ A → κ x < κ y) → insL κ x (A ++ B) = A ++ insL κ x B := by
  intro A
  induction A with
  | nil => intro _; rfl
  | cons a r ih =>
    intro h
    have := h a (by simp)
    rw [List.cons_append, insL, if_neg (by omega), ih (fun y hy => h y (by simp [hy]))]
    rfl
theorem srt_split {κ : Nat → Int} {A B : Nat → Bool} : ∀ {n : Nat}, (∀ x y, A x = true → B y = true → κ y < κ x) → srt κ (fun f => A f || B f) n = srt κ A n ++ srt κ B n := by
  intro n
  induction n with
  | zero => intro _; rfl
  | succ n ih =>
    intro h
    rw [srt, srt, srt, ih h]
    by_cases a : A n = true
    · by_cases b : B n = true
      · have := h n n a b; omega
      · rw [if_pos a, if_neg b, if_pos (by rw [a]; rfl), ins_a1 (fun y hy => by have := h n y a (srt_mem hy).2; omega)]
    · by_cases b : B n = true
      · rw [if_neg a, if_pos b, if_pos (by rw [b]; simp), ins_a2 (fun y hy => h y n (srt_mem hy).2 b)]
      · rw [if_neg a, if_neg b, if_neg (by simp at a b; rw [a, b]; simp)]
/-- the last one first, as it lies in an array -/
def rlA (f : Nat → Int32) : List Nat → Prop
  | [] => True
  | x :: r => f r.length = nI x ∧ rlA f r
theorem rlA_c {f g : Nat → Int32} : ∀ {l : List Nat}, (∀ i, i < l.length → g i = f i) → rlA f l → rlA g l := by
  intro l
  induction l with
  | nil => intro _ _; trivial
  | cons a r ih =>
    intro h hl
    exact ⟨(h r.length (by simp)).trans hl.1, ih (fun i hi => h i (by simp; omega)) hl.2⟩
theorem rlA_u {f : Nat → Int32} {n : Nat} {x : Int32} {l : List Nat} (h : l.length ≤ n) (hl : rlA f l) : rlA (upd f n x) l := rlA_c (fun i hi => pk_un (by omega)) hl
theorem sgN_mk {f : Nat → Int32} : ∀ {l k : List Nat} {a : Nat}, sgN f a l → sgN f (a + l.length) k → sgN f a (l ++ k) := by
  intro l
  induction l with
  | nil => intro k a _ h; exact h
  | cons x r ih =>
    intro k a h1 h2
    refine ⟨h1.1, ih h1.2 ?_⟩
    rw [show a + 1 + r.length = a + (x :: r).length by simp; omega]
    exact h2
theorem rlA_sg {f : Nat → Int32} : ∀ {l : List Nat}, rlA f l → sgN f 0 l.reverse := by
  intro l
  induction l with
  | nil => intro _; trivial
  | cons a r ih =>
    intro h
    rw [List.reverse_cons]
    refine sgN_mk (ih h.2) ⟨?_, trivial⟩
    rw [Nat.zero_add, List.length_reverse]
    exact h.1
theorem sgN_get {f : Nat → Int32} : ∀ {l : List Nat} {a i : Nat}, sgN f a l → i < l.length → f (a + i) = nI (l.getD i 0) := by
  intro l
  induction l with
  | nil => intro a i _ h; simp at h
  | cons x r ih =>
    intro a i h hi
    cases i with
    | zero => exact h.1
    | succ i =>
      rw [show a + (i + 1) = a + 1 + i by omega, ih h.2 (by simp at hi; omega)]
      rfl
/-- which is picked, and how many there are -/
def scn (k : Int32) : List Nat → Int32 × Nat → Int32 × Nat
  | [], q => q
  | x :: r, q => scn k r (if nI q.2 = k then nI x else q.1, q.2 + 1)
theorem scn_app (k : Int32) : ∀ (a b : List Nat) (q : Int32 × Nat), scn k (a ++ b) q = scn k b (scn k a q) := by
  intro a
  induction a with
  | nil => intro b q; rfl
  | cons x r ih => intro b q; rw [List.cons_append, scn, scn, ih]
theorem scn_2 (k : Int32) : ∀ (a : List Nat) (q : Int32 × Nat), (scn k a q).2 = q.2 + a.length := by
  intro a
  induction a with
  | nil => intro q; rfl
  | cons x r ih => intro q; rw [scn, ih, List.length_cons]; show q.2 + 1 + r.length = _; omega
theorem scn_m : ∀ (a : List Nat) (q : Int32 × Nat), q.2 + a.length < 2 ^ 31 → (scn (-1) a q).1 = q.1 := by
  intro a
  induction a with
  | nil => intro q _; rfl
  | cons x r ih =>
    intro q h
    rw [List.length_cons] at h
    rw [scn, ih _ (by show q.2 + 1 + r.length < _; omega)]
    exact if_neg (nI_m1 (by omega))
theorem scn_1 {j : Nat} (hj : j < 2 ^ 31) : ∀ (a : List Nat) (q : Int32 × Nat), q.2 + a.length < 2 ^ 31 → (scn (nI j) a q).1 = if q.2 ≤ j ∧ j < q.2 + a.length then nI (a.getD (j - q.2) 0) else q.1 := by
  intro a
  induction a with
  | nil => intro q _; rw [if_neg (by simp)]; rfl
  | cons x r ih =>
    intro q h
    rw [List.length_cons] at h
    rw [scn, ih _ (by show q.2 + 1 + r.length < _; omega), List.length_cons]
    show (if q.2 + 1 ≤ j ∧ j < q.2 + 1 + r.length then nI (r.getD (j - (q.2 + 1)) 0) else (if nI q.2 = nI j then nI x else q.1)) = _
    by_cases c : q.2 = j
    · rw [if_neg (by omega), if_pos (by rw [c]), if_pos (by omega), show j - q.2 = 0 by omega]; rfl
    · rw [if_neg (fun e => c ((nI_eq (by omega) hj).mp e))]
      by_cases d : q.2 + 1 ≤ j ∧ j < q.2 + 1 + r.length
      · rw [if_pos d, if_pos (by omega), show j - q.2 = (j - (q.2 + 1)) + 1 by omega]; rfl
      · rw [if_neg d, if_neg (by omega)]
