theorem gqL {a b : Nat} (h : Nat.blt a b = true) : a < b := (Nat.blt_eq).mp h
/-! Pure: insertion from the right end, on reversed lists; sorted lists; filters -/
-- r goes behind the last element that isn't greater; T is the reverse of the list
def insL (gt : Nat → Nat → Bool) (r : Nat) : List Nat → List Nat
  | [] => [r]
  | x :: t => if gt x r then x :: insL gt r t else r :: x :: t
-- the sorted list of the rows l, reversed
def srt (gt : Nat → Nat → Bool) (l : List Nat) : List Nat := l.foldl (fun T r => insL gt r T) []
-- a strict weak order
def swo (gt : Nat → Nat → Bool) : Prop := (∀ a b, gt a b = true → gt b a = false) ∧ ∀ a b c, gt a b = false → gt b c = false → gt a c = false
def dec (gt : Nat → Nat → Bool) (T : List Nat) : Prop := T.Pairwise (fun a b => gt b a = false)
theorem insL_mem {gt : Nat → Nat → Bool} {r y : Nat} : ∀ {T : List Nat}, y ∈ insL gt r T ↔ y = r ∨ y ∈ T
  | [] => by simp [insL]
  | x :: t => by
    unfold insL
    split
    · simp only [List.mem_cons, insL_mem (T := t)]
      constructor
      · rintro (h | h | h)
        · exact Or.inr (Or.inl h)
        · exact Or.inl h
        · exact Or.inr (Or.inr h)
      · rintro (h | h | h)
        · exact Or.inr (Or.inl h)
        · exact Or.inl h
        · exact Or.inr (Or.inr h)
    · simp only [List.mem_cons]
theorem insL_len {gt : Nat → Nat → Bool} {r : Nat} : ∀ {T : List Nat}, (insL gt r T).length = T.length + 1
  | [] => rfl
  | x :: t => by
    unfold insL
    split
    · simp [insL_len (T := t)]
    · simp
theorem insL_dec {gt : Nat → Nat → Bool} (hg : swo gt) {r : Nat} : ∀ {T : List Nat}, dec gt T → dec gt (insL gt r T)
  | [], _ => by simp [insL, dec]
  | x :: t, h => by
    obtain ⟨h1, h2⟩ := List.pairwise_cons.mp h
    unfold insL
    split
    · rename_i hx
      refine List.pairwise_cons.mpr ⟨fun y hy => ?_, insL_dec hg h2⟩
      rcases insL_mem.mp hy with rfl | hy
      · exact hg.1 _ _ hx
      · exact h1 y hy
    · rename_i hx
      have hx : gt x r = false := by simpa using hx
      refine List.pairwise_cons.mpr ⟨fun y hy => ?_, h⟩
      rcases List.mem_cons.mp hy with rfl | hy
      · exact hx
      · exact hg.2 _ _ _ (h1 y hy) hx
theorem insL_filter {gt : Nat → Nat → Bool} (hg : swo gt) {p : Nat → Bool} {r : Nat} : ∀ {T : List Nat}, dec gt T → (insL gt r T).filter p = if p r then insL gt r (T.filter p) else T.filter p
  | [], _ => by
    by_cases hp : p r <;> simp [insL, hp]
  | x :: t, h => by
    obtain ⟨h1, h2⟩ := List.pairwise_cons.mp h
    by_cases hx : gt x r = true
    · have ih := insL_filter hg (p := p) (r := r) h2
      by_cases hpx : p x = true
      · rw [insL, if_pos hx, List.filter_cons_of_pos hpx, ih, List.filter_cons_of_pos hpx]
        by_cases hp : p r = true
        · rw [if_pos hp, if_pos hp, insL, if_pos hx]
        · rw [if_neg hp, if_neg hp]
      · rw [insL, if_pos hx, List.filter_cons_of_neg hpx, ih, List.filter_cons_of_neg hpx]
    · rw [insL, if_neg hx]
      have hall : ∀ y ∈ x :: t, gt y r = false := by
        intro y hy
        rcases List.mem_cons.mp hy with rfl | hy
        · simpa using hx
        · exact hg.2 _ _ _ (h1 y hy) (by simpa using hx)
      have hst : ∀ l : List Nat, (∀ y ∈ l, gt y r = false) → insL gt r l = r :: l := by
        intro l hl
        cases l with
        | nil => rfl
        | cons y t => rw [insL, if_neg (by simp [hl y List.mem_cons_self])]
      by_cases hp : p r = true
      · rw [List.filter_cons_of_pos hp, if_pos hp, hst _ (fun y hy => hall y (List.mem_filter.mp hy).1)]
      · rw [List.filter_cons_of_neg hp, if_neg hp]
theorem srt_go {gt : Nat → Nat → Bool} (hg : swo gt) {p : Nat → Bool} : ∀ (l T : List Nat), dec gt T →
    dec gt (l.foldl (fun T r => insL gt r T) T) ∧ (l.foldl (fun T r => insL gt r T) T).filter p = (l.filter p).foldl (fun T r => insL gt r T) (T.filter p) ∧ (l.foldl (fun T r => insL gt r T) T).length = l.length + T.length ∧ ∀ y, y ∈ l.foldl (fun T r => insL gt r T) T ↔ y ∈ l ∨ y ∈ T
  | [], T, h => ⟨h, rfl, by simp, by simp⟩
  | r :: l, T, h => by
    obtain ⟨a, b, c, d⟩ := srt_go hg (p := p) l (insL gt r T) (insL_dec hg h)
    refine ⟨a, ?_, ?_, ?_⟩
    · rw [List.foldl_cons, b, insL_filter hg h]
      by_cases hp : p r = true
      · rw [if_pos hp, List.filter_cons_of_pos hp, List.foldl_cons]
      · rw [if_neg hp, List.filter_cons_of_neg hp]
    · rw [List.foldl_cons, c, insL_len]
      simp
      omega
    · intro y
      rw [List.foldl_cons, d y, insL_mem, List.mem_cons]
      constructor
      · rintro (h | h | h)
        · exact Or.inl (Or.inr h)
        · exact Or.inl (Or.inl h)
        · exact Or.inr h
      · rintro ((h | h) | h)
        · exact Or.inr (Or.inl h)
        · exact Or.inl h
        · exact Or.inr (Or.inr h)
theorem srt_dec {gt : Nat → Nat → Bool} (hg : swo gt) (l : List Nat) : dec gt (srt gt l) := (srt_go hg (p := fun _ => true) l [] List.Pairwise.nil).1
theorem srt_filter {gt : Nat → Nat → Bool} (hg : swo gt) (p : Nat → Bool) (l : List Nat) : (srt gt l).filter p = srt gt (l.filter p) := (srt_go hg l [] List.Pairwise.nil).2.1
theorem srt_len {gt : Nat → Nat → Bool} (hg : swo gt) (l : List Nat) : (srt gt l).length = l.length := (srt_go hg (p := fun _ => true) l [] List.Pairwise.nil).2.2.1
theorem srt_mem {gt : Nat → Nat → Bool} (hg : swo gt) (l : List Nat) (y : Nat) : y ∈ srt gt l ↔ y ∈ l := by
  have := (srt_go hg (p := fun _ => true) l [] List.Pairwise.nil).2.2.2 y
  rw [srt]
  simpa using this
theorem srt_snoc {gt : Nat → Nat → Bool} (l : List Nat) (r : Nat) : srt gt (l ++ [r]) = insL gt r (srt gt l) := by simp [srt]
-- a predicate that goes down along the list: its head part is its filter
theorem take_filter {a : Nat → Bool} : ∀ {S : List Nat}, S.Pairwise (fun x y => a y = true → a x = true) → S.takeWhile a = S.filter a ∧ S.dropWhile a = S.filter (fun x => !a x)
  | [], _ => ⟨rfl, rfl⟩
  | x :: t, h => by
    obtain ⟨h1, h2⟩ := List.pairwise_cons.mp h
    obtain ⟨i1, i2⟩ := take_filter h2
    by_cases hx : a x = true
    · simp [List.takeWhile_cons, List.dropWhile_cons, hx, i1, i2]
    · have hn : ∀ y ∈ t, a y = false := fun y hy => by
        cases hay : a y with
        | false => rfl
        | true => exact absurd (h1 y hy hay) hx
      have hx' : a x = false := by simpa using hx
      have e1 : t.filter a = [] := List.filter_eq_nil_iff.mpr (fun y hy => by simp [hn y hy])
      have e2 : t.filter (fun x => !a x) = t := List.filter_eq_self.mpr (fun y hy => by simp [hn y hy])
      simp [List.takeWhile_cons, List.dropWhile_cons, hx', e1, e2]

-- the array holds the list from place p on
def lay (f : Nat → Int32) (p : Nat) (l : List Nat) : Prop := ∀ i, i < l.length → f (p + i) = nI (l.getD i 0)
theorem lay_nil {f : Nat → Int32} {p : Nat} : lay f p [] := fun i h => by simp at h
theorem lay_app {f : Nat → Int32} {p : Nat} {l1 l2 : List Nat} : lay f p (l1 ++ l2) ↔ lay f p l1 ∧ lay f (p + l1.length) l2 := by
  constructor
  · intro h
    refine ⟨fun i hi => ?_, fun i hi => ?_⟩
    · rw [h i (by rw [List.length_append]; omega)]
      simp [List.getD_eq_getElem?_getD, List.getElem?_append_left hi]
    · rw [Nat.add_assoc, h (l1.length + i) (by rw [List.length_append]; omega)]
      simp [List.getD_eq_getElem?_getD, List.getElem?_append_right]
  · rintro ⟨h1, h2⟩ i hi
    rw [List.length_append] at hi
    by_cases h : i < l1.length
    · rw [h1 i h]
      simp [List.getD_eq_getElem?_getD, List.getElem?_append_left h]
    · have e : i = l1.length + (i - l1.length) := by omega
      rw [e, ← Nat.add_assoc, h2 (i - l1.length) (by omega)]
      simp [List.getD_eq_getElem?_getD, List.getElem?_append_right]
theorem lay_one {f : Nat → Int32} {p x : Nat} : lay f p [x] ↔ f p = nI x := by
  constructor
  · intro h
    exact h 0 (by simp)
  · intro h i hi
    have : i = 0 := by simpa using hi
    subst this
    simpa using h
theorem lay_cons {f : Nat → Int32} {p x : Nat} {l : List Nat} : lay f p (x :: l) ↔ f p = nI x ∧ lay f (p + 1) l := by
  rw [show x :: l = [x] ++ l from rfl, lay_app, lay_one]
  rfl
theorem lay_upd {f : Nat → Int32} {p k : Nat} {l : List Nat} {x : Int32} (h : lay f p l) (hk : k < p ∨ p + l.length ≤ k) : lay (upd f k x) p l := fun i hi => by
  rw [pk_un (by omega)]
  exact h i hi
theorem lay_get {f : Nat → Int32} {p : Nat} {l : List Nat} (h : lay f p l) {i : Nat} (hi : i < l.length) : f (p + i) = nI (l.getD i 0) := h i hi
theorem insL_split {gt : Nat → Nat → Bool} {r : Nat} : ∀ {D E : List Nat}, (∀ x ∈ D, gt x r = true) → (∀ e E', E = e :: E' → gt e r = false) → insL gt r (D ++ E) = D ++ r :: E
  | [], [], _, _ => rfl
  | [], e :: E', _, h => by
    rw [List.nil_append, insL, if_neg (by rw [h e E' rfl]; decide)]
    rfl
  | x :: D, E, h1, h2 => by
    rw [List.cons_append, insL, if_pos (h1 x List.mem_cons_self), insL_split (fun y hy => h1 y (List.mem_cons_of_mem _ hy)) h2]
    rfl
theorem getD_mem {l : List Nat} {i : Nat} (h : i < l.length) : l.getD i 0 ∈ l := by
  rw [List.getD_eq_getElem?_getD, List.getElem?_eq_getElem h]
  simp
theorem take_snoc {l : List Nat} {k : Nat} (h : k < l.length) : l.take (k + 1) = l.take k ++ [l.getD k 0] := by
  rw [List.take_succ, List.getElem?_eq_getElem h]
  simp [List.getD_eq_getElem?_getD, List.getElem?_eq_getElem h]
theorem drop_cons {l : List Nat} {k : Nat} (h : k < l.length) : l.drop k = l.getD k 0 :: l.drop (k + 1) := by
  rw [List.drop_eq_getElem_cons h]
  simp [List.getD_eq_getElem?_getD, List.getElem?_eq_getElem h]
